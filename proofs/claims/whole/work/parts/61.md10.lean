theorem w_Md_changes {G : zG} {X : zX} {n : Nat} {σ : zSt} {S : zSt} (hn : 220 ≤ n) (hM : zMz S) (hS : zMc σ S)  : ∀ (m : Nat) (i : Nat) (x1 x2 : Int) (τ : zSt), x2 = (i : Int) → x1 = (zcnt (fun s => decide (1 ≤ s) && zdif S (s : Int) ((s : Int) - 1)) i : Int) → zMf2 σ τ → zPd τ S → 1 ≤ i → i ≤ 2000 → 2000 < i + m → Go G X m_Md_changes (18, 0, 0, 0, 0) n SH τ 8 [(0, vr G 189), (1, vi x1), (2, vi x2)] [] (zI n SH (fun a σ' => a = (zcnt (fun s => decide (1 ≤ s) && zdif S (s : Int) ((s : Int) - 1)) 2000 : Int) ∧ zMf2 σ σ')) := by
  intro m
  induction m with
  | zero => intro i x1 x2 τ e2 e1 hf hP h1 hi hm; exact absurd hm (by omega)
  | succ m ih =>
    intro i x1 x2 τ e2 e1 hf hP h1 hi hm
    subst e2
    have zl := zcnt_le (fun s => decide (1 ≤ s) && zdif S (s : Int) ((s : Int) - 1)) i
    refine g_iload_n (i := 2) (by decide +kernel) rfl ?_
    refine g_sipush (a := 1999) (by decide +kernel) (by decide) ?_
    refine g_icmp_gt (off := 25) (tgt := 37) (by decide +kernel) (by decide) ⟨by omega, by omega⟩ ⟨by omega, by omega⟩ (fun h12 => ?_) (fun h12 => ?_)
    · refine g_iload_n (i := 1) (by decide +kernel) rfl ?_
      refine g_retI (by decide +kernel) rfl (Or.inl rfl) ⟨by decide, by decide⟩ ?_
      exact ⟨by rw [e1, show i = 2000 by omega], hf⟩
    · refine g_iload_n (i := 1) (by decide +kernel) rfl ?_
      refine g_aload_n (i := 0) (by decide +kernel) rfl ?_
      refine g_iload_n (i := 2) (by decide +kernel) rfl ?_
      refine g_cVI (st := _) (c_Md_isChange (t := (i : Int)) hn hP ⟨by omega, by omega⟩) k_Md_isChange l_Md_378 (by decide +kernel) (by omega) rfl rfl rfl rfl (Nat.le_of_ble_eq_true rfl) (by decide) ⟨by decide, by decide⟩ ?_
      rintro a9 σ9 ⟨ea9, hf9, hP9⟩
      subst ea9
      refine g_if_eq (off := 7) (tgt := 28) (by decide +kernel) (by decide) zbr (fun h21 => ?_) (fun h21 => ?_)
      · have h21 := zb0.mp h21
        refine g_iconst (a := 0) (by decide +kernel) ?_
        refine g_iadd (by decide +kernel) ?_
        refine g_istore_n (i := 1) (L' := [(0, _), (1, _), (2, _)]) (by decide +kernel) rfl rfl ?_
        refine g_iinc (i := 2) (b := 1) (L' := [(0, _), (1, _), (2, _)]) (by decide +kernel) rfl rfl rfl ?_
        refine g_goto (off := -26) (tgt := 8) (by decide +kernel) (by decide) ?_
        have g9 : zMf2 σ σ9 := fun a ha => by rw [hf9 a (by omega)]; exact hf a ha
        first
          | (have hz : ¬ zdif S (i : Int) ((i : Int) - 1) = true := h21
             exact ih (i + 1) _ _ σ9 (by push_cast; rfl) (by rw [zcnt_f (by rw [Bool.eq_false_iff.mpr hz, Bool.and_false])]; omega) g9 hP9 (by omega) (by omega) (by omega))
          | (have hz : zdif S (i : Int) ((i : Int) - 1) = true := h21
             exact ih (i + 1) _ _ σ9 (by push_cast; rfl) (by rw [zcnt_t (by rw [hz, decide_eq_true h1]; rfl)]; push_cast; omega) g9 hP9 (by omega) (by omega) (by omega))
      · have h21 := zb1.mp h21
        refine g_iconst (a := 1) (by decide +kernel) ?_
        refine g_goto (off := 4) (tgt := 29) (by decide +kernel) (by decide) ?_
        refine g_iadd (by decide +kernel) ?_
        refine g_istore_n (i := 1) (L' := [(0, _), (1, _), (2, _)]) (by decide +kernel) rfl rfl ?_
        refine g_iinc (i := 2) (b := 1) (L' := [(0, _), (1, _), (2, _)]) (by decide +kernel) rfl rfl rfl ?_
        refine g_goto (off := -26) (tgt := 8) (by decide +kernel) (by decide) ?_
        have g9 : zMf2 σ σ9 := fun a ha => by rw [hf9 a (by omega)]; exact hf a ha
        first
          | (have hz : ¬ zdif S (i : Int) ((i : Int) - 1) = true := h21
             exact ih (i + 1) _ _ σ9 (by push_cast; rfl) (by rw [zcnt_f (by rw [Bool.eq_false_iff.mpr hz, Bool.and_false])]; omega) g9 hP9 (by omega) (by omega) (by omega))
          | (have hz : zdif S (i : Int) ((i : Int) - 1) = true := h21
             exact ih (i + 1) _ _ σ9 (by push_cast; rfl) (by rw [zcnt_t (by rw [hz, decide_eq_true h1]; rfl)]; push_cast; omega) g9 hP9 (by omega) (by omega) (by omega))
theorem c_Md_changes {G : zG} {n : Nat} {σ : zSt} {S : zSt} (hn : 220 ≤ n) (hM : zMz S) (hS : zMc σ S)  : Gm G y_Md_changes m_Md_changes 18 0 0 [vr G 189] n SH σ (zI n SH (fun a σ' => a = (zcnt (fun s => decide (1 ≤ s) && zdif S (s : Int) ((s : Int) - 1)) 2000 : Int) ∧ zMf2 σ σ')) := by
  refine g_enter (L := [(0, _)]) (by decide) rfl rfl rfl (Nat.le_of_ble_eq_true rfl) (fun X => ?_)
  refine g_aload_n (i := 0) (by decide +kernel) rfl ?_
  refine g_cVV (st := _) (c_Md_laysPresses hn hM hS) k_Md_laysPresses l_Md_375 (by decide +kernel) (by omega) rfl rfl rfl rfl (Nat.le_of_ble_eq_true rfl) (by decide) ⟨by decide, by decide⟩ ?_
  rintro υ ⟨hf, hP⟩
  refine g_iconst (a := 0) (by decide +kernel) ?_
  refine g_istore_n (i := 1) (L' := [(0, _), (1, _)]) (by decide +kernel) rfl rfl ?_
  refine g_iconst (a := 1) (by decide +kernel) ?_
  refine g_istore_n (i := 2) (L' := [(0, _), (1, _), (2, _)]) (by decide +kernel) rfl rfl ?_
  exact w_Md_changes hn hM hS 2000 1 _ _ υ rfl rfl hf hP (by omega) (by omega) (by omega)
theorem c_Md_many {G : zG} {n : Nat} {σ : zSt} {S : zSt} (hn : 220 ≤ n) (hM : zMz S) (hS : zMc σ S) {w : Int} (z1 : zr w) : Gm G y_Md_many m_Md_many 19 0 0 [vr G 189, vi w] n SH σ (zI n SH (fun a σ' => zRM σ σ' a (if w < 0 ∨ 9 < w then 1 else 0) (if w = 0 then S 0 0 else if w = 1 then (zlvs S : Int) else if w = 2 then S 0 8 else if w = 3 then σ 189 1 else if w = 4 then zlast S else if w = 5 then σ 189 4 else if w = 6 then (zcnt (fun j => zOk S j) (zN S) : Int) else if w = 7 then (zcnt (fun s => decide (1 ≤ s) && zdif S (s : Int) ((s : Int) - 1)) 2000 : Int) else if w = 8 then σ 189 49 else σ 189 11))) := by
  refine g_enter (L := [(0, _), (1, _)]) (by decide) rfl rfl rfl (Nat.le_of_ble_eq_true rfl) (fun X => ?_)
  have e0 := hS.n
  have e8 := hS.p
  have hN := hS.N
  have hz : zN S = (S 0 0).toNat := rfl
  obtain ⟨z1a, z1b⟩ := id z1
  refine g_aload_n (i := 0) (by decide +kernel) rfl ?_
  refine g_iconst (a := 0) (by decide +kernel) ?_
  refine g_puti f_Md_142 (by decide +kernel) (by omega) rfl rfl ?_
  refine g_aload_n (i := 0) (by decide +kernel) rfl ?_
  refine g_iconst (a := 0) (by decide +kernel) ?_
  refine g_puti f_Md_145 (by decide +kernel) (by omega) rfl rfl ?_
  obtain ⟨τ, eτ⟩ : ∃ τ, τ = zs (zs σ 189 3 0) 189 2 0 := ⟨_, rfl⟩
  rw [← eτ]
  have f0 : zMF σ τ := by rw [eτ]; exact ((zMF.rf σ).put (by decide)).put (by decide)
  have s0 : τ 189 2 = 0 := by rw [eτ, zs_eq]
  have hT : zMc τ S := hS.moved (f0.1 190 (by decide))
  have et := hT.n
  have ep := hT.p
  refine g_aload_n (i := 0) (by decide +kernel) rfl ?_
  refine g_cVV (st := _) (c_Md_laysAll hn hT) k_Md_laysAll l_Md_195 (by decide +kernel) (by omega) rfl rfl rfl rfl (Nat.le_of_ble_eq_true rfl) (by decide) ⟨by decide, by decide⟩ ?_
  rintro υ ⟨hf, hl⟩
  have f1 := f0.of (fun a ha => hf a (by omega))
  have s1 : υ 189 2 = 0 := by rw [hf 189 (by omega)]; exact s0
  have hU : zMc υ S := hT.moved (hf 190 (by omega))
  have uf : ∀ j, υ 189 j = τ 189 j := fun j => by rw [hf 189 (by omega)]
  refine g_iload_n (i := 1) (by decide +kernel) rfl ?_
  rcases (by omega : w = 0 ∨ w = 1 ∨ w = 2 ∨ w = 3 ∨ w = 4 ∨ w = 5 ∨ w = 6 ∨ w = 7 ∨ w = 8 ∨ w = 9 ∨ (w < 0 ∨ 9 < w)) with h15 | h15 | h15 | h15 | h15 | h15 | h15 | h15 | h15 | h15 | h15
  · refine g_tableIn (dflt := 106) (lo := 0) (hi := 9) (offs := #[53, 58, 63, 70, 75, 81, 86, 91, 96, 101]) (len := 53) (off := 53) (tgt := 68) (by decide +kernel) ⟨by omega, by omega⟩ (by omega) (by omega) (by rw [h15]; rfl) (by decide) ?_
    refine g_aload_n (i := 0) (by decide +kernel) rfl ?_
    refine g_cVI (st := _) (c_Md_clips hn) k_Md_clips l_Md_148 (by decide +kernel) (by omega) rfl rfl rfl rfl (Nat.le_of_ble_eq_true rfl) (by decide) ⟨by decide, by decide⟩ ?_
    rintro a0 σ9 ⟨ea0, hσ9⟩
    obtain rfl := hσ9.symm
    subst ea0
    refine g_retI (by decide +kernel) rfl (Or.inl rfl) ⟨by decide, by decide⟩ ?_
    refine zRM.ok f1 (if_neg (by omega)) s1 ?_
    rw [if_pos (by omega)]
    exact hU.n
  · refine g_tableIn (dflt := 106) (lo := 0) (hi := 9) (offs := #[53, 58, 63, 70, 75, 81, 86, 91, 96, 101]) (len := 53) (off := 58) (tgt := 73) (by decide +kernel) ⟨by omega, by omega⟩ (by omega) (by omega) (by rw [h15]; rfl) (by decide) ?_
    refine g_aload_n (i := 0) (by decide +kernel) rfl ?_
    refine g_cVI (st := _) (c_Md_leaves hn hU) k_Md_leaves l_Md_381 (by decide +kernel) (by omega) rfl rfl rfl rfl (Nat.le_of_ble_eq_true rfl) (by decide) ⟨by decide, by decide⟩ ?_
    rintro a9 σ9 ⟨ea9, hσ9⟩
    obtain rfl := hσ9.symm
    refine g_retI (by decide +kernel) rfl (Or.inl rfl) ⟨by decide, by decide⟩ ?_
    refine zRM.ok f1 (if_neg (by omega)) s1 ?_
    rw [if_neg (by omega), if_pos (by omega)]
    exact ea9
  · refine g_tableIn (dflt := 106) (lo := 0) (hi := 9) (offs := #[53, 58, 63, 70, 75, 81, 86, 91, 96, 101]) (len := 53) (off := 63) (tgt := 78) (by decide +kernel) ⟨by omega, by omega⟩ (by omega) (by omega) (by rw [h15]; rfl) (by decide) ?_
    refine g_aload_n (i := 0) (by decide +kernel) rfl ?_
    refine g_getr f_Md_7 (by decide +kernel) (by omega) rfl rfl ?_
    refine g_iconst (a := 1) (by decide +kernel) ?_
    refine g_iald (j := 1) (by decide +kernel) (by omega) rfl (by omega) (by omega) (by decide) ?_
    refine g_retI (by decide +kernel) rfl (Or.inl rfl) ⟨by decide, by decide⟩ ?_
    refine zRM.ok f1 (if_neg (by omega)) s1 ?_
    rw [if_neg (by omega), if_neg (by omega), if_pos (by omega)]
    exact hU.p
  · refine g_tableIn (dflt := 106) (lo := 0) (hi := 9) (offs := #[53, 58, 63, 70, 75, 81, 86, 91, 96, 101]) (len := 53) (off := 70) (tgt := 85) (by decide +kernel) ⟨by omega, by omega⟩ (by omega) (by omega) (by rw [h15]; rfl) (by decide) ?_
    refine g_aload_n (i := 0) (by decide +kernel) rfl ?_
    refine g_geti f_Md_156 (by decide +kernel) (by omega) rfl rfl ?_
    refine g_retI (by decide +kernel) rfl (Or.inl rfl) ⟨by decide, by decide⟩ ?_
    refine zRM.ok f1 (if_neg (by omega)) s1 ?_
    rw [if_neg (by omega), if_neg (by omega), if_neg (by omega), if_pos (by omega)]
    rw [uf 1]; exact f0.2 1 (by decide)
  · refine g_tableIn (dflt := 106) (lo := 0) (hi := 9) (offs := #[53, 58, 63, 70, 75, 81, 86, 91, 96, 101]) (len := 53) (off := 75) (tgt := 90) (by decide +kernel) ⟨by omega, by omega⟩ (by omega) (by omega) (by rw [h15]; rfl) (by decide) ?_
    refine g_aload_n (i := 0) (by decide +kernel) rfl ?_
    refine g_cVL (st := _) (c_Md_lasts hn hU) k_Md_lasts l_Md_163 (by decide +kernel) (by omega) rfl rfl rfl rfl (Nat.le_of_ble_eq_true rfl) (by decide) ⟨by decide, by decide⟩ ?_
    rintro a9 ω ⟨ea9, gf, gl⟩
    have f2 := f1.of (fun a ha => gf a (by omega))
    have s2 : ω 189 2 = 0 := by rw [gf 189 (by omega)]; exact s1
    refine g_l2i (by decide +kernel) ?_
    refine g_retI (by decide +kernel) rfl (Or.inl rfl) ⟨by decide, by decide⟩ ?_
    refine zRM.ok f2 (if_neg (by omega)) s2 ?_
    rw [if_neg (by omega), if_neg (by omega), if_neg (by omega), if_neg (by omega), if_pos (by omega)]
    exact ea9
  · refine g_tableIn (dflt := 106) (lo := 0) (hi := 9) (offs := #[53, 58, 63, 70, 75, 81, 86, 91, 96, 101]) (len := 53) (off := 81) (tgt := 96) (by decide +kernel) ⟨by omega, by omega⟩ (by omega) (by omega) (by rw [h15]; rfl) (by decide) ?_
    refine g_aload_n (i := 0) (by decide +kernel) rfl ?_
    refine g_geti f_Md_307 (by decide +kernel) (by omega) rfl rfl ?_
    refine g_retI (by decide +kernel) rfl (Or.inl rfl) ⟨by decide, by decide⟩ ?_
    refine zRM.ok f1 (if_neg (by omega)) s1 ?_
    rw [if_neg (by omega), if_neg (by omega), if_neg (by omega), if_neg (by omega), if_neg (by omega), if_pos (by omega)]
    rw [uf 4]; exact f0.2 4 (by decide)
  · refine g_tableIn (dflt := 106) (lo := 0) (hi := 9) (offs := #[53, 58, 63, 70, 75, 81, 86, 91, 96, 101]) (len := 53) (off := 86) (tgt := 101) (by decide +kernel) ⟨by omega, by omega⟩ (by omega) (by omega) (by rw [h15]; rfl) (by decide) ?_
    refine g_aload_n (i := 0) (by decide +kernel) rfl ?_
    refine g_cVI (st := _) (c_Md_opensMany hn hU hl) k_Md_opensMany l_Md_384 (by decide +kernel) (by omega) rfl rfl rfl rfl (Nat.le_of_ble_eq_true rfl) (by decide) ⟨by decide, by decide⟩ ?_
    rintro a9 σ9 ⟨ea9, hσ9⟩
    obtain rfl := hσ9.symm
    refine g_retI (by decide +kernel) rfl (Or.inl rfl) ⟨by decide, by decide⟩ ?_
    refine zRM.ok f1 (if_neg (by omega)) s1 ?_
    rw [if_neg (by omega), if_neg (by omega), if_neg (by omega), if_neg (by omega), if_neg (by omega), if_neg (by omega), if_pos (by omega)]
    exact ea9
  · refine g_tableIn (dflt := 106) (lo := 0) (hi := 9) (offs := #[53, 58, 63, 70, 75, 81, 86, 91, 96, 101]) (len := 53) (off := 91) (tgt := 106) (by decide +kernel) ⟨by omega, by omega⟩ (by omega) (by omega) (by rw [h15]; rfl) (by decide) ?_
    refine g_aload_n (i := 0) (by decide +kernel) rfl ?_
    refine g_cVI (st := _) (c_Md_changes hn hM hU) k_Md_changes l_Md_387 (by decide +kernel) (by omega) rfl rfl rfl rfl (Nat.le_of_ble_eq_true rfl) (by decide) ⟨by decide, by decide⟩ ?_
    rintro a9 ω ⟨ea9, gf⟩
    have f2 := f1.of (fun a ha => gf a (by omega))
    have s2 : ω 189 2 = 0 := by rw [gf 189 (by omega)]; exact s1
    refine g_retI (by decide +kernel) rfl (Or.inl rfl) ⟨by decide, by decide⟩ ?_
    refine zRM.ok f2 (if_neg (by omega)) s2 ?_
    rw [if_neg (by omega), if_neg (by omega), if_neg (by omega), if_neg (by omega), if_neg (by omega), if_neg (by omega), if_neg (by omega), if_pos (by omega)]
    exact ea9
  · refine g_tableIn (dflt := 106) (lo := 0) (hi := 9) (offs := #[53, 58, 63, 70, 75, 81, 86, 91, 96, 101]) (len := 53) (off := 96) (tgt := 111) (by decide +kernel) ⟨by omega, by omega⟩ (by omega) (by omega) (by rw [h15]; rfl) (by decide) ?_
    refine g_aload_n (i := 0) (by decide +kernel) rfl ?_
    refine g_geti f_Md_310 (by decide +kernel) (by omega) rfl rfl ?_
    refine g_retI (by decide +kernel) rfl (Or.inl rfl) ⟨by decide, by decide⟩ ?_
    refine zRM.ok f1 (if_neg (by omega)) s1 ?_
    rw [if_neg (by omega), if_neg (by omega), if_neg (by omega), if_neg (by omega), if_neg (by omega), if_neg (by omega), if_neg (by omega), if_neg (by omega), if_pos (by omega)]
    rw [uf 49]; exact f0.2 49 (by decide)
  · refine g_tableIn (dflt := 106) (lo := 0) (hi := 9) (offs := #[53, 58, 63, 70, 75, 81, 86, 91, 96, 101]) (len := 53) (off := 101) (tgt := 116) (by decide +kernel) ⟨by omega, by omega⟩ (by omega) (by omega) (by rw [h15]; rfl) (by decide) ?_
    refine g_aload_n (i := 0) (by decide +kernel) rfl ?_
    refine g_geti f_Md_198 (by decide +kernel) (by omega) rfl rfl ?_
    refine g_retI (by decide +kernel) rfl (Or.inl rfl) ⟨by decide, by decide⟩ ?_
    refine zRM.ok f1 (if_neg (by omega)) s1 ?_
    rw [if_neg (by omega), if_neg (by omega), if_neg (by omega), if_neg (by omega), if_neg (by omega), if_neg (by omega), if_neg (by omega), if_neg (by omega), if_neg (by omega)]
    rw [uf 11]; exact f0.2 11 (by decide)
  · refine g_tableOut (dflt := 106) (lo := 0) (hi := 9) (offs := #[53, 58, 63, 70, 75, 81, 86, 91, 96, 101]) (len := 53) (tgt := 121) (by decide +kernel) ⟨by omega, by omega⟩ h15 (by decide) ?_
    refine g_aload_n (i := 0) (by decide +kernel) rfl ?_
    refine g_iconst (a := 1) (by decide +kernel) ?_
    refine g_cVI (st := _) (c_Md_refuse hn) k_Md_refuse l_Md_295 (by decide +kernel) (by omega) rfl rfl rfl rfl (Nat.le_of_ble_eq_true rfl) (by decide) ⟨by decide, by decide⟩ ?_
    rintro a9 σ9 ⟨ea9, hσ9⟩
    obtain rfl := ea9.symm
    subst hσ9
    refine g_retI (by decide +kernel) rfl (Or.inl rfl) ⟨by decide, by decide⟩ ?_
    exact zRM.ref f1 (if_pos (by omega)) (by decide)
theorem c_Md_asks {G : zG} {n : Nat} {σ : zSt} {S : zSt} (hn : 220 ≤ n) (hM : zMz S) (hS : zMc σ S) {c t : Int} (z1 : zr c) (z2 : zr t) : Gm G y_Md_asks m_Md_asks 18 0 0 [vr G 189, vi c, vi t] n SH σ (zI n SH (fun a σ' => a = (if zwa (S 0 0) t c = 0 then 1 else 0) ∧ zMF σ σ' ∧ σ' 189 2 = zwa (S 0 0) t c ∧ (zwa (S 0 0) t c = 0 → zPd σ' S ∧ zSo2 σ' S 6 t (zN S)))) := by
  refine g_enter (L := [(0, _), (1, _), (2, _)]) (by decide) rfl rfl rfl (Nat.le_of_ble_eq_true rfl) (fun X => ?_)
  have e0 := hS.n
  have e8 := hS.p
  have hN := hS.N
  have hz : zN S = (S 0 0).toNat := rfl
  obtain ⟨z1a, z1b⟩ := id z1
  obtain ⟨z2a, z2b⟩ := id z2
  refine g_aload_n (i := 0) (by decide +kernel) rfl ?_
  refine g_iconst (a := 0) (by decide +kernel) ?_
  refine g_puti f_Md_142 (by decide +kernel) (by omega) rfl rfl ?_
  obtain ⟨τ, eτ⟩ : ∃ τ, τ = zs σ 189 3 0 := ⟨_, rfl⟩
  rw [← eτ]
  have f0 : zMF σ τ := by rw [eτ]; exact (zMF.rf σ).put (by decide)
  have hT : zMc τ S := hS.moved (f0.1 190 (by decide))
  have et := hT.n
  have J34 : ∀ v : Int, v = zwa (S 0 0) t c → Go G X m_Md_asks (18, 0, 0, 0, 0) n SH τ 34 [(0, vr G 189), (1, vi c), (2, vi t)] [vi v, vr G 189] (zI n SH (fun a σ' => a = (if zwa (S 0 0) t c = 0 then 1 else 0) ∧ zMF σ σ' ∧ σ' 189 2 = zwa (S 0 0) t c ∧ (zwa (S 0 0) t c = 0 → zPd σ' S ∧ zSo2 σ' S 6 t (zN S)))) := by
    intro v ev
    have vr0 := @zwa_r (S 0 0) t c
    obtain ⟨υ, eυ⟩ : ∃ υ, υ = zs τ 189 2 v := ⟨_, rfl⟩
    have f1 : zMF σ υ := by rw [eυ]; exact f0.put (by decide)
    have s1 : υ 189 2 = v := by rw [eυ, zs_eq]
    have hU : zMc υ S := hS.moved (f1.1 190 (by decide))
    refine g_puti f_Md_145 (by decide +kernel) (by omega) rfl rfl ?_
    rw [← eυ]
    refine g_aload_n (i := 0) (by decide +kernel) rfl ?_
    refine g_geti f_Md_145 (by decide +kernel) (by omega) rfl rfl ?_
    rw [s1]
    refine g_if_le (off := 5) (tgt := 46) (by decide +kernel) (by decide) ⟨by omega, by omega⟩ (fun h41 => ?_) (fun h41 => ?_)
    · have v0 : zwa (S 0 0) t c = 0 := by omega
      have zz := zwa_0.mp v0
      refine g_aload_n (i := 0) (by decide +kernel) rfl ?_
      refine g_cVV (st := _) (c_Md_laysPresses hn hM hU) k_Md_laysPresses l_Md_375 (by decide +kernel) (by omega) rfl rfl rfl rfl (Nat.le_of_ble_eq_true rfl) (by decide) ⟨by decide, by decide⟩ ?_
      rintro ω ⟨hf, hP⟩
      have f2 := f1.of (fun a ha => hf a (by omega))
      refine g_aload_n (i := 0) (by decide +kernel) rfl ?_
      refine g_bipush (a := 6) (by decide +kernel) (by decide) ?_
      refine g_iload_n (i := 2) (by decide +kernel) rfl ?_
      refine g_cVV (st := _) (c_Md_laysSlot (s := 6) (t := t) hn (hP.x (by decide) _) (fun i hi _ => by omega) zz.1) k_Md_laysSlot l_Md_372 (by decide +kernel) (by omega) rfl rfl rfl rfl (Nat.le_of_ble_eq_true rfl) (by decide) ⟨by decide, by decide⟩ ?_
      rintro ρ ⟨hr6, h6⟩
      refine g_iconst (a := 1) (by decide +kernel) ?_
      refine g_retI (by decide +kernel) rfl (Or.inr ⟨rfl, by omega⟩) ⟨by decide, by decide⟩ ?_
      exact ⟨by rw [if_pos v0], f2.of (fun a ha => hr6.1 a (by omega)), by rw [hr6.1 189 (by omega), hf 189 (by omega), s1]; exact ev, fun _ => ⟨hP.slot (by decide) hr6, h6⟩⟩
    · refine g_iconst (a := 0) (by decide +kernel) ?_
      refine g_retI (by decide +kernel) rfl (Or.inr ⟨rfl, by omega⟩) ⟨by decide, by decide⟩ ?_
      exact ⟨by rw [if_neg (by omega)], f1, by rw [s1]; exact ev, fun q => by omega⟩
  refine g_aload_n (i := 0) (by decide +kernel) rfl ?_
  refine g_iload_n (i := 2) (by decide +kernel) rfl ?_
  refine g_iconst (a := 0) (by decide +kernel) ?_
  refine g_sipush (a := 1999) (by decide +kernel) (by decide) ?_
  refine g_cSI (st := _) (c_Md_isIn ⟨by omega, by omega⟩ ⟨by omega, by omega⟩ ⟨by omega, by omega⟩) k_Md_isIn l_Md_152 (by decide +kernel) rfl rfl (Nat.le_of_ble_eq_true rfl) (by decide) ⟨by decide, by decide⟩ ?_
  rintro a9 σ9 ⟨ea9, hσ9⟩
  obtain rfl := hσ9.symm
  subst ea9
  refine g_if_ne (off := 7) (tgt := 21) (by decide +kernel) (by decide) zbr (fun h14 => ?_) (fun h14 => ?_)
  · have h14 := zb1.mp h14
    refine g_aload_n (i := 0) (by decide +kernel) rfl ?_
    refine g_iload_n (i := 1) (by decide +kernel) rfl ?_
    refine g_cVI (st := _) (c_Md_isClip (k := c) hn (by assumption) (by rw [hT.n]; omega)) k_Md_isClip l_Md_313 (by decide +kernel) (by omega) rfl rfl rfl rfl (Nat.le_of_ble_eq_true rfl) (by decide) ⟨by decide, by decide⟩ ?_
    rintro a9 σ9 ⟨ea9, hσ9⟩
    obtain rfl := hσ9.symm
    rw [hT.n] at ea9
    subst ea9
    refine g_if_ne (off := 7) (tgt := 33) (by decide +kernel) (by decide) zbr (fun h26 => ?_) (fun h26 => ?_)
    · have h26 := zb1.mp h26
      refine g_iconst (a := 0) (by decide +kernel) ?_
      first
        | exact J34 _ (by unfold zwa; rw [if_pos (by omega)])
        | exact J34 _ (by unfold zwa; rw [if_neg (by omega), if_pos (by omega)])
        | exact J34 _ (by unfold zwa; rw [if_neg (by omega), if_neg (by omega)])
    · have h26 := zb0.mp h26
      refine g_iconst (a := 2) (by decide +kernel) ?_
      refine g_goto (off := 4) (tgt := 34) (by decide +kernel) (by decide) ?_
      first
        | exact J34 _ (by unfold zwa; rw [if_pos (by omega)])
        | exact J34 _ (by unfold zwa; rw [if_neg (by omega), if_pos (by omega)])
        | exact J34 _ (by unfold zwa; rw [if_neg (by omega), if_neg (by omega)])
  · have h14 := zb0.mp h14
    refine g_iconst (a := 1) (by decide +kernel) ?_
    refine g_goto (off := 16) (tgt := 34) (by decide +kernel) (by decide) ?_
    first
      | exact J34 _ (by unfold zwa; rw [if_pos (by omega)])
      | exact J34 _ (by unfold zwa; rw [if_neg (by omega), if_pos (by omega)])
      | exact J34 _ (by unfold zwa; rw [if_neg (by omega), if_neg (by omega)])
theorem c_Md_state {G : zG} {n : Nat} {σ : zSt} {S : zSt} (hn : 220 ≤ n) (hM : zMz S) (hS : zMc σ S) {c t : Int} (z1 : zr c) (z2 : zr t) : Gm G y_Md_state m_Md_state 19 0 0 [vr G 189, vi c, vi t] n SH σ (zI n SH (fun a σ' => zRM σ σ' a (zwa (S 0 0) t c) (zv S t 1 c.toNat))) := by
  refine g_enter (L := [(0, _), (1, _), (2, _)]) (by decide) rfl rfl rfl (Nat.le_of_ble_eq_true rfl) (fun X => ?_)
  have e0 := hS.n
  have e8 := hS.p
  have hN := hS.N
  have hz : zN S = (S 0 0).toNat := rfl
  refine g_aload_n (i := 0) (by decide +kernel) rfl ?_
  refine g_iload_n (i := 1) (by decide +kernel) rfl ?_
  refine g_iload_n (i := 2) (by decide +kernel) rfl ?_
  refine g_cVI (st := _) (c_Md_asks (c := c) (t := t) hn hM hS z1 z2) k_Md_asks l_Md_390 (by decide +kernel) (by omega) rfl rfl rfl rfl (Nat.le_of_ble_eq_true rfl) (by decide) ⟨by decide, by decide⟩ ?_
  rintro a9 τ ⟨ea9, hf, hs, hA⟩
  subst ea9
  refine g_if_eq (off := 11) (tgt := 17) (by decide +kernel) (by decide) zbr (fun h6 => ?_) (fun h6 => ?_)
  · have h6 := zb0.mp h6
    refine g_iconst (a := -1) (by decide +kernel) ?_
    refine g_retI (by decide +kernel) rfl (Or.inl rfl) ⟨by decide, by decide⟩ ?_
    first
      | exact zRM.no hf h6 hs
      | exact zRM.ok hf h6x s1 (by rw [Int.toNat_natCast])
  · have h6 := zb1.mp h6
    have h6x := h6
    obtain ⟨hP, q6⟩ := hA h6
    have zz := zwa_0.mp h6x
    obtain ⟨k, rfl⟩ := Int.eq_ofNat_of_zero_le zz.2.1
    have kN : k < zN S := by omega
    have k6 := zS6 q6 kN
    have st6 := zv_st (t := t) hM kN
    have s1 : τ 189 2 = 0 := by rw [hs]; exact h6x
    refine g_aload_n (i := 0) (by decide +kernel) rfl ?_
    refine g_iload_n (i := 1) (by decide +kernel) rfl ?_
    refine g_cVI (st := _) (c_Md_stateOf (k := k) hn (by omega)) k_Md_stateOf l_Md_393 (by decide +kernel) (by omega) rfl rfl rfl rfl (Nat.le_of_ble_eq_true rfl) (by decide) ⟨by decide, by decide⟩ ?_
    rintro a8 σ8 ⟨ea8, hσ8⟩
    obtain rfl := hσ8.symm
    rw [k6.1] at ea8
    subst ea8
    refine g_goto (off := 4) (tgt := 18) (by decide +kernel) (by decide) ?_
    refine g_retI (by decide +kernel) rfl (Or.inl rfl) ⟨by decide, by decide⟩ ?_
    first
      | exact zRM.no hf h6 hs
      | exact zRM.ok hf h6x s1 (by rw [Int.toNat_natCast])
theorem c_Md_strength {G : zG} {n : Nat} {σ : zSt} {S : zSt} (hn : 220 ≤ n) (hM : zMz S) (hS : zMc σ S) {c t : Int} (z1 : zr c) (z2 : zr t) : Gm G y_Md_strength m_Md_strength 19 0 0 [vr G 189, vi c, vi t] n SH σ (zI n SH (fun a σ' => zRM σ σ' a (zwa (S 0 0) t c) (zv S t 6 c.toNat))) := by
  refine g_enter (L := [(0, _), (1, _), (2, _)]) (by decide) rfl rfl rfl (Nat.le_of_ble_eq_true rfl) (fun X => ?_)
  have e0 := hS.n
  have e8 := hS.p
  have hN := hS.N
  have hz : zN S = (S 0 0).toNat := rfl
  refine g_aload_n (i := 0) (by decide +kernel) rfl ?_
  refine g_iload_n (i := 1) (by decide +kernel) rfl ?_
  refine g_iload_n (i := 2) (by decide +kernel) rfl ?_
  refine g_cVI (st := _) (c_Md_asks (c := c) (t := t) hn hM hS z1 z2) k_Md_asks l_Md_390 (by decide +kernel) (by omega) rfl rfl rfl rfl (Nat.le_of_ble_eq_true rfl) (by decide) ⟨by decide, by decide⟩ ?_
  rintro a9 τ ⟨ea9, hf, hs, hA⟩
  subst ea9
  refine g_if_eq (off := 15) (tgt := 21) (by decide +kernel) (by decide) zbr (fun h6 => ?_) (fun h6 => ?_)
  · have h6 := zb0.mp h6
    refine g_iconst (a := -1) (by decide +kernel) ?_
    refine g_retI (by decide +kernel) rfl (Or.inl rfl) ⟨by decide, by decide⟩ ?_
    first
      | exact zRM.no hf h6 hs
      | exact zRM.ok hf h6x s1 (by rw [Int.toNat_natCast]; exact k6.2.2.2.2)
  · have h6 := zb1.mp h6
    have h6x := h6
    obtain ⟨hP, q6⟩ := hA h6
    have zz := zwa_0.mp h6x
    obtain ⟨k, rfl⟩ := Int.eq_ofNat_of_zero_le zz.2.1
    have kN : k < zN S := by omega
    have k6 := zS6 q6 kN
    have st6 := zv_st (t := t) hM kN
    have s1 : τ 189 2 = 0 := by rw [hs]; exact h6x
    refine g_aload_n (i := 0) (by decide +kernel) rfl ?_
    refine g_getr f_Md_100 (by decide +kernel) (by omega) rfl rfl ?_
    refine g_bipush (a := 72) (by decide +kernel) (by decide) ?_
    refine g_iload_n (i := 1) (by decide +kernel) rfl ?_
    refine g_iadd (by decide +kernel) ?_
    refine g_iald (j := (72 + k)) (by decide +kernel) (by omega) rfl (by omega) (by omega) (by decide) ?_
    refine g_goto (off := 4) (tgt := 22) (by decide +kernel) (by decide) ?_
    refine g_retI (by decide +kernel) rfl (Or.inl rfl) ⟨by decide, by decide⟩ ?_
    first
      | exact zRM.no hf h6 hs
      | exact zRM.ok hf h6x s1 (by rw [Int.toNat_natCast]; exact k6.2.2.2.2)
theorem c_Md_local {G : zG} {n : Nat} {σ : zSt} {S : zSt} (hn : 220 ≤ n) (hM : zMz S) (hS : zMc σ S) {c t : Int} (z1 : zr c) (z2 : zr t) : Gm G y_Md_local m_Md_local 19 0 0 [vr G 189, vi c, vi t] n SH σ (zI n SH (fun a σ' => zRM σ σ' a (zwr S t c) (zv S t 2 c.toNat))) := by
  refine g_enter (L := [(0, _), (1, _), (2, _)]) (by decide) rfl rfl rfl (Nat.le_of_ble_eq_true rfl) (fun X => ?_)
  have e0 := hS.n
  have e8 := hS.p
  have hN := hS.N
  have hz : zN S = (S 0 0).toNat := rfl
  refine g_aload_n (i := 0) (by decide +kernel) rfl ?_
  refine g_iload_n (i := 1) (by decide +kernel) rfl ?_
  refine g_iload_n (i := 2) (by decide +kernel) rfl ?_
  refine g_cVI (st := _) (c_Md_asks (c := c) (t := t) hn hM hS z1 z2) k_Md_asks l_Md_390 (by decide +kernel) (by omega) rfl rfl rfl rfl (Nat.le_of_ble_eq_true rfl) (by decide) ⟨by decide, by decide⟩ ?_
  rintro a9 τ ⟨ea9, hf, hs, hA⟩
  subst ea9
  refine g_if_ne (off := 5) (tgt := 11) (by decide +kernel) (by decide) zbr (fun h6 => ?_) (fun h6 => ?_)
  · have h6 := zb1.mp h6
    have h6x := h6
    obtain ⟨hP, q6⟩ := hA h6
    have zz := zwa_0.mp h6x
    obtain ⟨k, rfl⟩ := Int.eq_ofNat_of_zero_le zz.2.1
    have kN : k < zN S := by omega
    have k6 := zS6 q6 kN
    have st6 := zv_st (t := t) hM kN
    have s1 : τ 189 2 = 0 := by rw [hs]; exact h6x
    refine g_aload_n (i := 0) (by decide +kernel) rfl ?_
    refine g_iload_n (i := 1) (by decide +kernel) rfl ?_
    refine g_cVI (st := _) (c_Md_stateOf (k := k) hn (by omega)) k_Md_stateOf l_Md_393 (by decide +kernel) (by omega) rfl rfl rfl rfl (Nat.le_of_ble_eq_true rfl) (by decide) ⟨by decide, by decide⟩ ?_
    rintro a8 σ8 ⟨ea8, hσ8⟩
    obtain rfl := hσ8.symm
    rw [k6.1] at ea8
    subst ea8
    refine g_iconst (a := 2) (by decide +kernel) ?_
    refine g_iconst (a := 3) (by decide +kernel) ?_
    refine g_cSI (st := _) (c_Md_isIn ⟨by omega, by omega⟩ ⟨by omega, by omega⟩ ⟨by omega, by omega⟩) k_Md_isIn l_Md_152 (by decide +kernel) rfl rfl (Nat.le_of_ble_eq_true rfl) (by decide) ⟨by decide, by decide⟩ ?_
    rintro a9 σ9 ⟨ea9, hσ9⟩
    obtain rfl := hσ9.symm
    subst ea9
    refine g_if_eq (off := 12) (tgt := 33) (by decide +kernel) (by decide) zbr (fun h21 => ?_) (fun h21 => ?_)
    · have h21 := zb0.mp h21
      refine g_aload_n (i := 0) (by decide +kernel) rfl ?_
      refine g_bipush (a := 8) (by decide +kernel) (by decide) ?_
      refine g_cVI (st := _) (c_Md_refuse hn) k_Md_refuse l_Md_295 (by decide +kernel) (by omega) rfl rfl rfl rfl (Nat.le_of_ble_eq_true rfl) (by decide) ⟨by decide, by decide⟩ ?_
      rintro a9 σ9 ⟨ea9, hσ9⟩
      obtain rfl := ea9.symm
      subst hσ9
      refine g_retI (by decide +kernel) rfl (Or.inl rfl) ⟨by decide, by decide⟩ ?_
      first
        | (have hz : ¬ (2 ≤ zv S t 1 k ∧ zv S t 1 k ≤ 3) := h21
           exact zRM.ref hf (by unfold zwr; rw [if_neg (fun q => q h6x), Int.toNat_natCast, if_neg (by omega)]) (by decide))
        | (have hz : 2 ≤ zv S t 1 k ∧ zv S t 1 k ≤ 3 := h21
           exact zRM.ok hf (by unfold zwr; rw [if_neg (fun q => q h6x), Int.toNat_natCast, if_pos (by omega)]) s1 (by rw [Int.toNat_natCast]))
    · have h21 := zb1.mp h21
      refine g_aload_n (i := 0) (by decide +kernel) rfl ?_
      refine g_iload_n (i := 1) (by decide +kernel) rfl ?_
      refine g_cVL (st := _) (c_Md_localOf (k := k) hn (by omega)) k_Md_localOf l_Md_396 (by decide +kernel) (by omega) rfl rfl rfl rfl (Nat.le_of_ble_eq_true rfl) (by decide) ⟨by decide, by decide⟩ ?_
      rintro a8 σ8 ⟨ea8, hσ8⟩
      obtain rfl := hσ8.symm
      rw [k6.2.1] at ea8
      subst ea8
      refine g_l2i (by decide +kernel) ?_
      refine g_goto (off := 9) (tgt := 39) (by decide +kernel) (by decide) ?_
      refine g_retI (by decide +kernel) rfl (Or.inl rfl) ⟨by decide, by decide⟩ ?_
      first
        | (have hz : ¬ (2 ≤ zv S t 1 k ∧ zv S t 1 k ≤ 3) := h21
           exact zRM.ref hf (by unfold zwr; rw [if_neg (fun q => q h6x), Int.toNat_natCast, if_neg (by omega)]) (by decide))
        | (have hz : 2 ≤ zv S t 1 k ∧ zv S t 1 k ≤ 3 := h21
           exact zRM.ok hf (by unfold zwr; rw [if_neg (fun q => q h6x), Int.toNat_natCast, if_pos (by omega)]) s1 (by rw [Int.toNat_natCast]))
  · have h6 := zb0.mp h6
    refine g_iconst (a := -1) (by decide +kernel) ?_
    refine g_retI (by decide +kernel) rfl (Or.inl rfl) ⟨by decide, by decide⟩ ?_
    refine zRM.no hf ?_ ?_
    · unfold zwr; rw [if_pos h6]; exact h6
    · unfold zwr; rw [if_pos h6]; exact hs
theorem c_Md_pass {G : zG} {n : Nat} {σ : zSt} {S : zSt} (hn : 220 ≤ n) (hM : zMz S) (hS : zMc σ S) {c t : Int} (z1 : zr c) (z2 : zr t) : Gm G y_Md_pass m_Md_pass 19 0 0 [vr G 189, vi c, vi t] n SH σ (zI n SH (fun a σ' => zRM σ σ' a (zwr S t c) (zv S t 3 c.toNat))) := by
  refine g_enter (L := [(0, _), (1, _), (2, _)]) (by decide) rfl rfl rfl (Nat.le_of_ble_eq_true rfl) (fun X => ?_)
  have e0 := hS.n
  have e8 := hS.p
  have hN := hS.N
  have hz : zN S = (S 0 0).toNat := rfl
  refine g_aload_n (i := 0) (by decide +kernel) rfl ?_
  refine g_iload_n (i := 1) (by decide +kernel) rfl ?_
  refine g_iload_n (i := 2) (by decide +kernel) rfl ?_
  refine g_cVI (st := _) (c_Md_asks (c := c) (t := t) hn hM hS z1 z2) k_Md_asks l_Md_390 (by decide +kernel) (by omega) rfl rfl rfl rfl (Nat.le_of_ble_eq_true rfl) (by decide) ⟨by decide, by decide⟩ ?_
  rintro a9 τ ⟨ea9, hf, hs, hA⟩
  subst ea9
  refine g_if_ne (off := 5) (tgt := 11) (by decide +kernel) (by decide) zbr (fun h6 => ?_) (fun h6 => ?_)
  · have h6 := zb1.mp h6
    have h6x := h6
    obtain ⟨hP, q6⟩ := hA h6
    have zz := zwa_0.mp h6x
    obtain ⟨k, rfl⟩ := Int.eq_ofNat_of_zero_le zz.2.1
    have kN : k < zN S := by omega
    have k6 := zS6 q6 kN
    have st6 := zv_st (t := t) hM kN
    have s1 : τ 189 2 = 0 := by rw [hs]; exact h6x
    refine g_aload_n (i := 0) (by decide +kernel) rfl ?_
    refine g_iload_n (i := 1) (by decide +kernel) rfl ?_
    refine g_cVI (st := _) (c_Md_stateOf (k := k) hn (by omega)) k_Md_stateOf l_Md_393 (by decide +kernel) (by omega) rfl rfl rfl rfl (Nat.le_of_ble_eq_true rfl) (by decide) ⟨by decide, by decide⟩ ?_
    rintro a8 σ8 ⟨ea8, hσ8⟩
    obtain rfl := hσ8.symm
    rw [k6.1] at ea8
    subst ea8
    refine g_iconst (a := 2) (by decide +kernel) ?_
    refine g_iconst (a := 3) (by decide +kernel) ?_
    refine g_cSI (st := _) (c_Md_isIn ⟨by omega, by omega⟩ ⟨by omega, by omega⟩ ⟨by omega, by omega⟩) k_Md_isIn l_Md_152 (by decide +kernel) rfl rfl (Nat.le_of_ble_eq_true rfl) (by decide) ⟨by decide, by decide⟩ ?_
    rintro a9 σ9 ⟨ea9, hσ9⟩
    obtain rfl := hσ9.symm
    subst ea9
    refine g_if_eq (off := 16) (tgt := 37) (by decide +kernel) (by decide) zbr (fun h21 => ?_) (fun h21 => ?_)
    · have h21 := zb0.mp h21
      refine g_aload_n (i := 0) (by decide +kernel) rfl ?_
      refine g_bipush (a := 8) (by decide +kernel) (by decide) ?_
      refine g_cVI (st := _) (c_Md_refuse hn) k_Md_refuse l_Md_295 (by decide +kernel) (by omega) rfl rfl rfl rfl (Nat.le_of_ble_eq_true rfl) (by decide) ⟨by decide, by decide⟩ ?_
      rintro a9 σ9 ⟨ea9, hσ9⟩
      obtain rfl := ea9.symm
      subst hσ9
      refine g_retI (by decide +kernel) rfl (Or.inl rfl) ⟨by decide, by decide⟩ ?_
      first
        | (have hz : ¬ (2 ≤ zv S t 1 k ∧ zv S t 1 k ≤ 3) := h21
           exact zRM.ref hf (by unfold zwr; rw [if_neg (fun q => q h6x), Int.toNat_natCast, if_neg (by omega)]) (by decide))
        | (have hz : 2 ≤ zv S t 1 k ∧ zv S t 1 k ≤ 3 := h21
           exact zRM.ok hf (by unfold zwr; rw [if_neg (fun q => q h6x), Int.toNat_natCast, if_pos (by omega)]) s1 (by rw [Int.toNat_natCast]; exact k6.2.2.1))
    · have h21 := zb1.mp h21
      refine g_aload_n (i := 0) (by decide +kernel) rfl ?_
      refine g_getr f_Md_94 (by decide +kernel) (by omega) rfl rfl ?_
      refine g_bipush (a := 72) (by decide +kernel) (by decide) ?_
      refine g_iload_n (i := 1) (by decide +kernel) rfl ?_
      refine g_iadd (by decide +kernel) ?_
      refine g_lald (j := (72 + k)) (by decide +kernel) (by omega) rfl (by omega) (by omega) (by decide) ?_
      refine g_l2i (by decide +kernel) ?_
      refine g_goto (off := 9) (tgt := 43) (by decide +kernel) (by decide) ?_
      refine g_retI (by decide +kernel) rfl (Or.inl rfl) ⟨by decide, by decide⟩ ?_
      first
        | (have hz : ¬ (2 ≤ zv S t 1 k ∧ zv S t 1 k ≤ 3) := h21
           exact zRM.ref hf (by unfold zwr; rw [if_neg (fun q => q h6x), Int.toNat_natCast, if_neg (by omega)]) (by decide))
        | (have hz : 2 ≤ zv S t 1 k ∧ zv S t 1 k ≤ 3 := h21
           exact zRM.ok hf (by unfold zwr; rw [if_neg (fun q => q h6x), Int.toNat_natCast, if_pos (by omega)]) s1 (by rw [Int.toNat_natCast]; exact k6.2.2.1))
  · have h6 := zb0.mp h6
    refine g_iconst (a := -1) (by decide +kernel) ?_
    refine g_retI (by decide +kernel) rfl (Or.inl rfl) ⟨by decide, by decide⟩ ?_
    refine zRM.no hf ?_ ?_
    · unfold zwr; rw [if_pos h6]; exact h6
    · unfold zwr; rw [if_pos h6]; exact hs
theorem zv_4 {S : zSt} {t : Int} {k : Nat} (h : zMz S) (hk : k < zN S) : (zv S t 1 k = 0 → zv S t 4 k = -1) ∧ -1 ≤ zv S t 4 k ∧ zv S t 4 k ≤ 200000000 := by
  have E := (zv_eqs h t hk).2.2.2.2.1
  have b := zBK_in (t := t) h hk
  unfold zBK at b
  refine ⟨fun q => by rw [E, if_pos q], ?_⟩
  rw [E]
  split <;> omega
theorem c_Md_known {G : zG} {n : Nat} {σ : zSt} {S : zSt} (hn : 220 ≤ n) (hM : zMz S) (hS : zMc σ S) {c t : Int} (z1 : zr c) (z2 : zr t) : Gm G y_Md_known m_Md_known 19 0 0 [vr G 189, vi c, vi t] n SH σ (zI n SH (fun a σ' => zRM σ σ' a (if zwa (S 0 0) t c ≠ 0 then zwa (S 0 0) t c else if zv S t 4 c.toNat = -1 then 8 else 0) (zv S t 4 c.toNat))) := by
  refine g_enter (L := [(0, _), (1, _), (2, _)]) (by decide) rfl rfl rfl (Nat.le_of_ble_eq_true rfl) (fun X => ?_)
  have e0 := hS.n
  have e8 := hS.p
  have hN := hS.N
  have hz : zN S = (S 0 0).toNat := rfl
  refine g_aload_n (i := 0) (by decide +kernel) rfl ?_
  refine g_iload_n (i := 1) (by decide +kernel) rfl ?_
  refine g_iload_n (i := 2) (by decide +kernel) rfl ?_
  refine g_cVI (st := _) (c_Md_asks (c := c) (t := t) hn hM hS z1 z2) k_Md_asks l_Md_390 (by decide +kernel) (by omega) rfl rfl rfl rfl (Nat.le_of_ble_eq_true rfl) (by decide) ⟨by decide, by decide⟩ ?_
  rintro a9 τ ⟨ea9, hf, hs, hA⟩
  subst ea9
  refine g_if_ne (off := 5) (tgt := 11) (by decide +kernel) (by decide) zbr (fun h6 => ?_) (fun h6 => ?_)
  · have h6 := zb1.mp h6
    have h6x := h6
    obtain ⟨hP, q6⟩ := hA h6
    have zz := zwa_0.mp h6x
    obtain ⟨k, rfl⟩ := Int.eq_ofNat_of_zero_le zz.2.1
    have kN : k < zN S := by omega
    have k6 := zS6 q6 kN
    have st6 := zv_st (t := t) hM kN
    have s1 : τ 189 2 = 0 := by rw [hs]; exact h6x
    have v4 := zv_4 (t := t) hM kN
    have k5 := k6.2.2.2.1
    refine g_aload_n (i := 0) (by decide +kernel) rfl ?_
    refine g_iload_n (i := 1) (by decide +kernel) rfl ?_
    refine g_cVI (st := _) (c_Md_stateOf (k := k) hn (by omega)) k_Md_stateOf l_Md_393 (by decide +kernel) (by omega) rfl rfl rfl rfl (Nat.le_of_ble_eq_true rfl) (by decide) ⟨by decide, by decide⟩ ?_
    rintro a8 σ8 ⟨ea8, hσ8⟩
    obtain rfl := hσ8.symm
    rw [k6.1] at ea8
    subst ea8
    refine g_if_eq (off := 17) (tgt := 33) (by decide +kernel) (by decide) ⟨by omega, by omega⟩ (fun h16 => ?_) (fun h16 => ?_)
    · refine g_aload_n (i := 0) (by decide +kernel) rfl ?_
      refine g_bipush (a := 8) (by decide +kernel) (by decide) ?_
      refine g_cVI (st := _) (c_Md_refuse hn) k_Md_refuse l_Md_295 (by decide +kernel) (by omega) rfl rfl rfl rfl (Nat.le_of_ble_eq_true rfl) (by decide) ⟨by decide, by decide⟩ ?_
      rintro a9 σ9 ⟨ea9, hσ9⟩
      obtain rfl := ea9.symm
      subst hσ9
      refine g_goto (off := 13) (tgt := 52) (by decide +kernel) (by decide) ?_
      refine g_retI (by decide +kernel) rfl (Or.inl rfl) ⟨by decide, by decide⟩ ?_
      first
        | (have hz : zv S t 1 k = 0 := h16
           exact zRM.ref hf (by rw [if_neg (fun q => q h6x), Int.toNat_natCast, if_pos (v4.1 hz)]) (by decide))
        | (have hz : τ 205 (72 + k) < 0 := h30
           exact zRM.ref hf (by rw [if_neg (fun q => q h6x), Int.toNat_natCast, if_pos (by omega)]) (by decide))
        | (have hz : 0 ≤ τ 205 (72 + k) := h30
           exact zRM.ok hf (by rw [if_neg (fun q => q h6x), Int.toNat_natCast, if_neg (by omega)]) s1 (by rw [Int.toNat_natCast]; exact k5))
    · refine g_aload_n (i := 0) (by decide +kernel) rfl ?_
      refine g_getr f_Md_97 (by decide +kernel) (by omega) rfl rfl ?_
      refine g_bipush (a := 72) (by decide +kernel) (by decide) ?_
      refine g_iload_n (i := 1) (by decide +kernel) rfl ?_
      refine g_iadd (by decide +kernel) ?_
      refine g_lald (j := (72 + k)) (by decide +kernel) (by omega) rfl (by omega) (by omega) (by decide) ?_
      refine g_lconst (c := 0) (a := 0) (by decide +kernel) (by decide) ?_
      refine g_lcmp (by decide +kernel) ⟨by omega, by omega⟩ ⟨by omega, by omega⟩ ?_
      refine g_if_ge (off := 12) (tgt := 42) (by decide +kernel) (by decide) zcmp_r (fun h30 => ?_) (fun h30 => ?_)
      · have h30 := zcmp_ge.mp h30
        refine g_aload_n (i := 0) (by decide +kernel) rfl ?_
        refine g_getr f_Md_97 (by decide +kernel) (by omega) rfl rfl ?_
        refine g_bipush (a := 72) (by decide +kernel) (by decide) ?_
        refine g_iload_n (i := 1) (by decide +kernel) rfl ?_
        refine g_iadd (by decide +kernel) ?_
        refine g_lald (j := (72 + k)) (by decide +kernel) (by omega) rfl (by omega) (by omega) (by decide) ?_
        refine g_l2i (by decide +kernel) ?_
        refine g_retI (by decide +kernel) rfl (Or.inl rfl) ⟨by decide, by decide⟩ ?_
        first
          | (have hz : zv S t 1 k = 0 := h16
             exact zRM.ref hf (by rw [if_neg (fun q => q h6x), Int.toNat_natCast, if_pos (v4.1 hz)]) (by decide))
          | (have hz : τ 205 (72 + k) < 0 := h30
             exact zRM.ref hf (by rw [if_neg (fun q => q h6x), Int.toNat_natCast, if_pos (by omega)]) (by decide))
          | (have hz : 0 ≤ τ 205 (72 + k) := h30
             exact zRM.ok hf (by rw [if_neg (fun q => q h6x), Int.toNat_natCast, if_neg (by omega)]) s1 (by rw [Int.toNat_natCast]; exact k5))
      · have h30 := zcmp_lt.mp h30
        refine g_aload_n (i := 0) (by decide +kernel) rfl ?_
        refine g_bipush (a := 8) (by decide +kernel) (by decide) ?_
        refine g_cVI (st := _) (c_Md_refuse hn) k_Md_refuse l_Md_295 (by decide +kernel) (by omega) rfl rfl rfl rfl (Nat.le_of_ble_eq_true rfl) (by decide) ⟨by decide, by decide⟩ ?_
        rintro a9 σ9 ⟨ea9, hσ9⟩
        obtain rfl := ea9.symm
        subst hσ9
        refine g_goto (off := 13) (tgt := 52) (by decide +kernel) (by decide) ?_
        refine g_retI (by decide +kernel) rfl (Or.inl rfl) ⟨by decide, by decide⟩ ?_
        first
          | (have hz : zv S t 1 k = 0 := h16
             exact zRM.ref hf (by rw [if_neg (fun q => q h6x), Int.toNat_natCast, if_pos (v4.1 hz)]) (by decide))
          | (have hz : τ 205 (72 + k) < 0 := h30
             exact zRM.ref hf (by rw [if_neg (fun q => q h6x), Int.toNat_natCast, if_pos (by omega)]) (by decide))
          | (have hz : 0 ≤ τ 205 (72 + k) := h30
             exact zRM.ok hf (by rw [if_neg (fun q => q h6x), Int.toNat_natCast, if_neg (by omega)]) s1 (by rw [Int.toNat_natCast]; exact k5))
  · have h6 := zb0.mp h6
    refine g_iconst (a := -1) (by decide +kernel) ?_
    refine g_retI (by decide +kernel) rfl (Or.inl rfl) ⟨by decide, by decide⟩ ?_
    refine zRM.no hf ?_ ?_
    · rw [if_pos h6]; exact h6
    · rw [if_pos h6]; exact hs
theorem c_Md_playing {G : zG} {n : Nat} {σ : zSt} {S : zSt} (hn : 220 ≤ n) (hM : zMz S) (hS : zMc σ S) {t f : Int} (z1 : zr t) (hff : f = 0 ∨ f = 1) : Gm G y_Md_playing m_Md_playing 18 0 0 [vr G 189, vi t, vi f] n SH σ (zI n SH (fun a σ' => zRM σ σ' a (if 0 ≤ t ∧ t ≤ 1999 then 0 else 1) (if f = 0 then (zset S t 2 : Int) else (zset S t 3 : Int)))) := by
  refine g_enter (L := [(0, _), (1, _), (2, _)]) (by decide) rfl rfl rfl (Nat.le_of_ble_eq_true rfl) (fun X => ?_)
  have e0 := hS.n
  have e8 := hS.p
  have hN := hS.N
  have hz : zN S = (S 0 0).toNat := rfl
  obtain ⟨z1a, z1b⟩ := id z1
  refine g_aload_n (i := 0) (by decide +kernel) rfl ?_
  refine g_iconst (a := 0) (by decide +kernel) ?_
  refine g_puti f_Md_142 (by decide +kernel) (by omega) rfl rfl ?_
  refine g_aload_n (i := 0) (by decide +kernel) rfl ?_
  refine g_iconst (a := 0) (by decide +kernel) ?_
  refine g_puti f_Md_145 (by decide +kernel) (by omega) rfl rfl ?_
  obtain ⟨τ, eτ⟩ : ∃ τ, τ = zs (zs σ 189 3 0) 189 2 0 := ⟨_, rfl⟩
  rw [← eτ]
  have f0 : zMF σ τ := by rw [eτ]; exact ((zMF.rf σ).put (by decide)).put (by decide)
  have s0 : τ 189 2 = 0 := by rw [eτ, zs_eq]
  have hT : zMc τ S := hS.moved (f0.1 190 (by decide))
  have et := hT.n
  have ep := hT.p
  refine g_iload_n (i := 1) (by decide +kernel) rfl ?_
  refine g_iconst (a := 0) (by decide +kernel) ?_
  refine g_sipush (a := 1999) (by decide +kernel) (by decide) ?_
  refine g_cSI (st := _) (c_Md_isIn ⟨by omega, by omega⟩ ⟨by omega, by omega⟩ ⟨by omega, by omega⟩) k_Md_isIn l_Md_152 (by decide +kernel) rfl rfl (Nat.le_of_ble_eq_true rfl) (by decide) ⟨by decide, by decide⟩ ?_
  rintro a9 σ9 ⟨ea9, hσ9⟩
  obtain rfl := hσ9.symm
  subst ea9
  refine g_if_ne (off := 9) (tgt := 27) (by decide +kernel) (by decide) zbr (fun h18 => ?_) (fun h18 => ?_)
  · have h18 := zb1.mp h18
    refine g_aload_n (i := 0) (by decide +kernel) rfl ?_
    refine g_cVV (st := _) (c_Md_laysPresses hn hM hT) k_Md_laysPresses l_Md_375 (by decide +kernel) (by omega) rfl rfl rfl rfl (Nat.le_of_ble_eq_true rfl) (by decide) ⟨by decide, by decide⟩ ?_
    rintro υ ⟨hf, hP⟩
    have f1 := f0.of (fun a ha => hf a (by omega))
    have s1 : υ 189 2 = 0 := by rw [hf 189 (by omega)]; exact s0
    refine g_aload_n (i := 0) (by decide +kernel) rfl ?_
    refine g_bipush (a := 6) (by decide +kernel) (by decide) ?_
    refine g_iload_n (i := 1) (by decide +kernel) rfl ?_
    refine g_cVV (st := _) (c_Md_laysSlot (s := 6) (t := t) hn (hP.x (by decide) _) (fun i hi _ => by omega) ⟨by omega, by omega⟩) k_Md_laysSlot l_Md_372 (by decide +kernel) (by omega) rfl rfl rfl rfl (Nat.le_of_ble_eq_true rfl) (by decide) ⟨by decide, by decide⟩ ?_
    rintro ω ⟨hr6, h6⟩
    have f2 := f1.of (fun a ha => hr6.1 a (by omega))
    have s2 : ω 189 2 = 0 := by rw [hr6.1 189 (by omega)]; exact s1
    have hP2 := hP.slot (by decide) hr6
    refine g_aload_n (i := 0) (by decide +kernel) rfl ?_
    refine g_iload_n (i := 2) (by decide +kernel) rfl ?_
    refine g_if_eq (off := 7) (tgt := 47) (by decide +kernel) (by decide) ⟨by omega, by omega⟩ (fun h40 => ?_) (fun h40 => ?_)
    · refine g_iconst (a := 2) (by decide +kernel) ?_
      refine g_cVI (st := _) (c_Md_setOf (t := t) hn hM hP2.2.1 h6 (by decide)) k_Md_setOf l_Md_400 (by decide +kernel) (by omega) rfl rfl rfl rfl (Nat.le_of_ble_eq_true rfl) (by decide) ⟨by decide, by decide⟩ ?_
      rintro a8 σ8 ⟨ea8, hσ8⟩
      obtain rfl := hσ8.symm
      refine g_retI (by decide +kernel) rfl (Or.inl rfl) ⟨by decide, by decide⟩ ?_
      refine zRM.ok f2 (if_pos (by omega)) s2 ?_
      first
        | (have hz : f = 0 := h40
           rw [if_pos hz]; exact ea8)
        | (have hz : ¬ f = 0 := h40
           rw [if_neg hz]; exact ea8)
    · refine g_iconst (a := 3) (by decide +kernel) ?_
      refine g_goto (off := 4) (tgt := 48) (by decide +kernel) (by decide) ?_
      refine g_cVI (st := _) (c_Md_setOf (t := t) hn hM hP2.2.1 h6 (by decide)) k_Md_setOf l_Md_400 (by decide +kernel) (by omega) rfl rfl rfl rfl (Nat.le_of_ble_eq_true rfl) (by decide) ⟨by decide, by decide⟩ ?_
      rintro a8 σ8 ⟨ea8, hσ8⟩
      obtain rfl := hσ8.symm
      refine g_retI (by decide +kernel) rfl (Or.inl rfl) ⟨by decide, by decide⟩ ?_
      refine zRM.ok f2 (if_pos (by omega)) s2 ?_
      first
        | (have hz : f = 0 := h40
           rw [if_pos hz]; exact ea8)
        | (have hz : ¬ f = 0 := h40
           rw [if_neg hz]; exact ea8)
  · have h18 := zb0.mp h18
    refine g_aload_n (i := 0) (by decide +kernel) rfl ?_
    refine g_iconst (a := 1) (by decide +kernel) ?_
    refine g_cVI (st := _) (c_Md_refuse hn) k_Md_refuse l_Md_295 (by decide +kernel) (by omega) rfl rfl rfl rfl (Nat.le_of_ble_eq_true rfl) (by decide) ⟨by decide, by decide⟩ ?_
    rintro a9 σ9 ⟨ea9, hσ9⟩
    obtain rfl := ea9.symm
    subst hσ9
    refine g_retI (by decide +kernel) rfl (Or.inl rfl) ⟨by decide, by decide⟩ ?_
    exact zRM.ref f0 (if_neg (by omega)) (by decide)
theorem c_Md_seek {G : zG} {n : Nat} {σ : zSt} {S : zSt} (hn : 220 ≤ n) (hM : zMz S) (hS : zMc σ S) {t : Int} (z1 : zr t) : Gm G y_Md_seek m_Md_seek 18 0 0 [vr G 189, vi t] n SH σ (zI n SH (fun a σ' => (¬ (0 ≤ t ∧ t ≤ 1999) ∧ zRM σ σ' a 1 0) ∨ ((0 ≤ t ∧ t ≤ 1999) ∧ zRM (zs σ 189 4 t) σ' a 0 (zset S t 2 : Int)))) := by
  refine g_enter (L := [(0, _), (1, _)]) (by decide) rfl rfl rfl (Nat.le_of_ble_eq_true rfl) (fun X => ?_)
  have e0 := hS.n
  have e8 := hS.p
  have hN := hS.N
  have hz : zN S = (S 0 0).toNat := rfl
  obtain ⟨z1a, z1b⟩ := id z1
  refine g_aload_n (i := 0) (by decide +kernel) rfl ?_
  refine g_iconst (a := 0) (by decide +kernel) ?_
  refine g_puti f_Md_142 (by decide +kernel) (by omega) rfl rfl ?_
  refine g_aload_n (i := 0) (by decide +kernel) rfl ?_
  refine g_iconst (a := 0) (by decide +kernel) ?_
  refine g_puti f_Md_145 (by decide +kernel) (by omega) rfl rfl ?_
  obtain ⟨τ, eτ⟩ : ∃ τ, τ = zs (zs σ 189 3 0) 189 2 0 := ⟨_, rfl⟩
  rw [← eτ]
  have f0 : zMF σ τ := by rw [eτ]; exact ((zMF.rf σ).put (by decide)).put (by decide)
  have s0 : τ 189 2 = 0 := by rw [eτ, zs_eq]
  have hT : zMc τ S := hS.moved (f0.1 190 (by decide))
  have et := hT.n
  have ep := hT.p
  refine g_iload_n (i := 1) (by decide +kernel) rfl ?_
  refine g_iconst (a := 0) (by decide +kernel) ?_
  refine g_sipush (a := 1999) (by decide +kernel) (by decide) ?_
  refine g_cSI (st := _) (c_Md_isIn ⟨by omega, by omega⟩ ⟨by omega, by omega⟩ ⟨by omega, by omega⟩) k_Md_isIn l_Md_152 (by decide +kernel) rfl rfl (Nat.le_of_ble_eq_true rfl) (by decide) ⟨by decide, by decide⟩ ?_
  rintro a9 σ9 ⟨ea9, hσ9⟩
  obtain rfl := hσ9.symm
  subst ea9
  refine g_if_ne (off := 9) (tgt := 27) (by decide +kernel) (by decide) zbr (fun h18 => ?_) (fun h18 => ?_)
  · have h18 := zb1.mp h18
    refine g_aload_n (i := 0) (by decide +kernel) rfl ?_
    refine g_iload_n (i := 1) (by decide +kernel) rfl ?_
    refine g_puti f_Md_307 (by decide +kernel) (by omega) rfl rfl ?_
    obtain ⟨ψ, eψ⟩ : ∃ ψ, ψ = zs τ 189 4 t := ⟨_, rfl⟩
    rw [← eψ]
    have f0 : zMF (zs σ 189 4 t) ψ := by
      rw [eψ]
      refine ⟨fun a ha => ?_, fun j hj => ?_⟩
      · rw [zs_other (by omega), zs_other (by omega)]; exact f0.1 a ha
      · by_cases z : j = 4
        · subst z; rw [zs_eq, zs_eq]
        · rw [zs_ne (fun y => z y.2), zs_ne (fun y => z y.2)]; exact f0.2 j hj
    have s0 : ψ 189 2 = 0 := by rw [eψ, zs_ne (by omega)]; exact s0
    have hT : zMc ψ S := hT.moved (by rw [eψ, zs_other (by decide)])
    refine g_aload_n (i := 0) (by decide +kernel) rfl ?_
    refine g_cVV (st := _) (c_Md_laysPresses hn hM hT) k_Md_laysPresses l_Md_375 (by decide +kernel) (by omega) rfl rfl rfl rfl (Nat.le_of_ble_eq_true rfl) (by decide) ⟨by decide, by decide⟩ ?_
    rintro υ ⟨hf, hP⟩
    have f1 := f0.of (fun a ha => hf a (by omega))
    have s1 : υ 189 2 = 0 := by rw [hf 189 (by omega)]; exact s0
    refine g_aload_n (i := 0) (by decide +kernel) rfl ?_
    refine g_bipush (a := 6) (by decide +kernel) (by decide) ?_
    refine g_iload_n (i := 1) (by decide +kernel) rfl ?_
    refine g_cVV (st := _) (c_Md_laysSlot (s := 6) (t := t) hn (hP.x (by decide) _) (fun i hi _ => by omega) ⟨by omega, by omega⟩) k_Md_laysSlot l_Md_372 (by decide +kernel) (by omega) rfl rfl rfl rfl (Nat.le_of_ble_eq_true rfl) (by decide) ⟨by decide, by decide⟩ ?_
    rintro ω ⟨hr6, h6⟩
    have f2 := f1.of (fun a ha => hr6.1 a (by omega))
    have s2 : ω 189 2 = 0 := by rw [hr6.1 189 (by omega)]; exact s1
    have hP2 := hP.slot (by decide) hr6
    refine g_aload_n (i := 0) (by decide +kernel) rfl ?_
    refine g_iconst (a := 2) (by decide +kernel) ?_
    refine g_cVI (st := _) (c_Md_setOf (t := t) hn hM hP2.2.1 h6 (by decide)) k_Md_setOf l_Md_400 (by decide +kernel) (by omega) rfl rfl rfl rfl (Nat.le_of_ble_eq_true rfl) (by decide) ⟨by decide, by decide⟩ ?_
    rintro a8 σ8 ⟨ea8, hσ8⟩
    obtain rfl := hσ8.symm
    refine g_retI (by decide +kernel) rfl (Or.inl rfl) ⟨by decide, by decide⟩ ?_
    exact Or.inr ⟨by omega, zRM.ok f2 rfl s2 ea8⟩
  · have h18 := zb0.mp h18
    refine g_aload_n (i := 0) (by decide +kernel) rfl ?_
    refine g_iconst (a := 1) (by decide +kernel) ?_
    refine g_cVI (st := _) (c_Md_refuse hn) k_Md_refuse l_Md_295 (by decide +kernel) (by omega) rfl rfl rfl rfl (Nat.le_of_ble_eq_true rfl) (by decide) ⟨by decide, by decide⟩ ?_
    rintro a9 σ9 ⟨ea9, hσ9⟩
    obtain rfl := ea9.symm
    subst hσ9
    refine g_retI (by decide +kernel) rfl (Or.inl rfl) ⟨by decide, by decide⟩ ?_
    exact Or.inl ⟨by omega, zRM.ref f0 rfl (by decide)⟩
theorem c_Md_within {G : zG} {n : Nat} {σ : zSt} {S : zSt} (hn : 220 ≤ n) (hS : zMc σ S) {c t : Int} (z1 : zr c) (z2 : zr t) : Gm G y_Md_within m_Md_within 2 0 0 [vr G 189, vi c, vi t] n SH σ (zI n SH (fun a σ' => zRM σ σ' a (if t < 0 then 1 else if ¬ (0 ≤ c ∧ c < S 0 0) then 2 else if zch S c t = -1 then 8 else 0) (zch S c t))) := by
  refine g_enter (L := [(0, _), (1, _), (2, _)]) (by decide) rfl rfl rfl (Nat.le_of_ble_eq_true rfl) (fun X => ?_)
  have e0 := hS.n
  have e8 := hS.p
  have hN := hS.N
  have hz : zN S = (S 0 0).toNat := rfl
  obtain ⟨z1a, z1b⟩ := id z1
  obtain ⟨z2a, z2b⟩ := id z2
  refine g_aload_n (i := 0) (by decide +kernel) rfl ?_
  refine g_iconst (a := 0) (by decide +kernel) ?_
  refine g_puti f_Md_142 (by decide +kernel) (by omega) rfl rfl ?_
  refine g_aload_n (i := 0) (by decide +kernel) rfl ?_
  refine g_iconst (a := 0) (by decide +kernel) ?_
  refine g_puti f_Md_145 (by decide +kernel) (by omega) rfl rfl ?_
  obtain ⟨τ, eτ⟩ : ∃ τ, τ = zs (zs σ 189 3 0) 189 2 0 := ⟨_, rfl⟩
  rw [← eτ]
  have f0 : zMF σ τ := by rw [eτ]; exact ((zMF.rf σ).put (by decide)).put (by decide)
  have s0 : τ 189 2 = 0 := by rw [eτ, zs_eq]
  have hT : zMc τ S := hS.moved (f0.1 190 (by decide))
  have et := hT.n
  have ep := hT.p
  refine g_iload_n (i := 2) (by decide +kernel) rfl ?_
  refine g_if_ge (off := 9) (tgt := 20) (by decide +kernel) (by decide) ⟨by omega, by omega⟩ (fun h11 => ?_) (fun h11 => ?_)
  · refine g_aload_n (i := 0) (by decide +kernel) rfl ?_
    refine g_iload_n (i := 1) (by decide +kernel) rfl ?_
    refine g_cVI (st := _) (c_Md_isClip (k := c) hn (by assumption) (by rw [hT.n]; omega)) k_Md_isClip l_Md_313 (by decide +kernel) (by omega) rfl rfl rfl rfl (Nat.le_of_ble_eq_true rfl) (by decide) ⟨by decide, by decide⟩ ?_
    rintro a9 σ9 ⟨ea9, hσ9⟩
    obtain rfl := hσ9.symm
    rw [hT.n] at ea9
    subst ea9
    refine g_if_ne (off := 9) (tgt := 34) (by decide +kernel) (by decide) zbr (fun h25 => ?_) (fun h25 => ?_)
    · have h25 := zb1.mp h25
      refine g_aload_n (i := 0) (by decide +kernel) rfl ?_
      refine g_iload_n (i := 1) (by decide +kernel) rfl ?_
      refine g_iload_n (i := 2) (by decide +kernel) rfl ?_
      refine g_cVI (st := _) (c_Md_inPlace (q := c) (p := t) hn hT z1 z2) k_Md_inPlace l_Md_176 (by decide +kernel) (by omega) rfl rfl rfl rfl (Nat.le_of_ble_eq_true rfl) (by decide) ⟨by decide, by decide⟩ ?_
      rintro a9 σ9 ⟨ea9, hσ9⟩
      obtain rfl := hσ9.symm
      have rg : -1 ≤ zch S c t ∧ zch S c t < zN S := zfst_range
      rw [← ea9] at rg
      refine g_istore_n (i := 3) (L' := [(0, _), (1, _), (2, _), (3, _)]) (by decide +kernel) rfl rfl ?_
      refine g_iload_n (i := 3) (by decide +kernel) rfl ?_
      refine g_if_ge (off := 12) (tgt := 54) (by decide +kernel) (by decide) ⟨by omega, by omega⟩ (fun h42 => ?_) (fun h42 => ?_)
      · refine g_iload_n (i := 3) (by decide +kernel) rfl ?_
        refine g_retI (by decide +kernel) rfl (Or.inl rfl) ⟨by decide, by decide⟩ ?_
        first
          | (have hz : a9 < 0 := h42
             exact zRM.ref f0 (by rw [if_neg (by omega), if_neg (by omega), if_pos (by omega)]) (by decide))
          | (have hz : 0 ≤ a9 := h42
             exact zRM.ok f0 (by rw [if_neg (by omega), if_neg (by omega), if_neg (by omega)]) s0 ea9)
      · refine g_aload_n (i := 0) (by decide +kernel) rfl ?_
        refine g_bipush (a := 8) (by decide +kernel) (by decide) ?_
        refine g_cVI (st := _) (c_Md_refuse hn) k_Md_refuse l_Md_295 (by decide +kernel) (by omega) rfl rfl rfl rfl (Nat.le_of_ble_eq_true rfl) (by decide) ⟨by decide, by decide⟩ ?_
        rintro a9 σ9 ⟨ea9, hσ9⟩
        obtain rfl := ea9.symm
        subst hσ9
        refine g_goto (off := 4) (tgt := 55) (by decide +kernel) (by decide) ?_
        refine g_retI (by decide +kernel) rfl (Or.inl rfl) ⟨by decide, by decide⟩ ?_
        first
          | (have hz : a9 < 0 := h42
             exact zRM.ref f0 (by rw [if_neg (by omega), if_neg (by omega), if_pos (by omega)]) (by decide))
          | (have hz : 0 ≤ a9 := h42
             exact zRM.ok f0 (by rw [if_neg (by omega), if_neg (by omega), if_neg (by omega)]) s0 ea9)
    · have h25 := zb0.mp h25
      refine g_aload_n (i := 0) (by decide +kernel) rfl ?_
      refine g_iconst (a := 2) (by decide +kernel) ?_
      refine g_cVI (st := _) (c_Md_refuse hn) k_Md_refuse l_Md_295 (by decide +kernel) (by omega) rfl rfl rfl rfl (Nat.le_of_ble_eq_true rfl) (by decide) ⟨by decide, by decide⟩ ?_
      rintro a9 σ9 ⟨ea9, hσ9⟩
      obtain rfl := ea9.symm
      subst hσ9
      refine g_retI (by decide +kernel) rfl (Or.inl rfl) ⟨by decide, by decide⟩ ?_
      exact zRM.ref f0 (by rw [if_neg (by omega), if_pos (by omega)]) (by decide)
  · refine g_aload_n (i := 0) (by decide +kernel) rfl ?_
    refine g_iconst (a := 1) (by decide +kernel) ?_
    refine g_cVI (st := _) (c_Md_refuse hn) k_Md_refuse l_Md_295 (by decide +kernel) (by omega) rfl rfl rfl rfl (Nat.le_of_ble_eq_true rfl) (by decide) ⟨by decide, by decide⟩ ?_
    rintro a9 σ9 ⟨ea9, hσ9⟩
    obtain rfl := ea9.symm
    subst hσ9
    refine g_retI (by decide +kernel) rfl (Or.inl rfl) ⟨by decide, by decide⟩ ?_
    exact zRM.ref f0 (if_pos (by omega)) (by decide)
theorem c_Md_begin {G : zG} {n : Nat} {σ : zSt} {S : zSt} (hn : 220 ≤ n) (hS : zMc σ S) {c : Int} (z1 : zr c) : Gm G y_Md_begin m_Md_begin 4 0 0 [vr G 189, vi c] n SH σ (zI n SH (fun a σ' => zRM σ σ' a (if ¬ (0 ≤ c ∧ c < S 0 0) then 2 else if zOk S c.toNat = true then 8 else 0) (zBe S (zsa S).2 c.toNat))) := by
  refine g_enter (L := [(0, _), (1, _)]) (by decide) rfl rfl rfl (Nat.le_of_ble_eq_true rfl) (fun X => ?_)
  have e0 := hS.n
  have e8 := hS.p
  have hN := hS.N
  have hz : zN S = (S 0 0).toNat := rfl
  obtain ⟨z1a, z1b⟩ := id z1
  refine g_aload_n (i := 0) (by decide +kernel) rfl ?_
  refine g_iconst (a := 0) (by decide +kernel) ?_
  refine g_puti f_Md_142 (by decide +kernel) (by omega) rfl rfl ?_
  refine g_aload_n (i := 0) (by decide +kernel) rfl ?_
  refine g_iconst (a := 0) (by decide +kernel) ?_
  refine g_puti f_Md_145 (by decide +kernel) (by omega) rfl rfl ?_
  obtain ⟨τ, eτ⟩ : ∃ τ, τ = zs (zs σ 189 3 0) 189 2 0 := ⟨_, rfl⟩
  rw [← eτ]
  have f0 : zMF σ τ := by rw [eτ]; exact ((zMF.rf σ).put (by decide)).put (by decide)
  have s0 : τ 189 2 = 0 := by rw [eτ, zs_eq]
  have hT : zMc τ S := hS.moved (f0.1 190 (by decide))
  have et := hT.n
  have ep := hT.p
  refine g_aload_n (i := 0) (by decide +kernel) rfl ?_
  refine g_iload_n (i := 1) (by decide +kernel) rfl ?_
  refine g_cVI (st := _) (c_Md_isClip (k := c) hn (by assumption) (by rw [hT.n]; omega)) k_Md_isClip l_Md_313 (by decide +kernel) (by omega) rfl rfl rfl rfl (Nat.le_of_ble_eq_true rfl) (by decide) ⟨by decide, by decide⟩ ?_
  rintro a9 σ9 ⟨ea9, hσ9⟩
  obtain rfl := hσ9.symm
  rw [hT.n] at ea9
  subst ea9
  refine g_if_ne (off := 9) (tgt := 24) (by decide +kernel) (by decide) zbr (fun h15 => ?_) (fun h15 => ?_)
  · have h15 := zb1.mp h15
    obtain ⟨k, rfl⟩ := Int.eq_ofNat_of_zero_le h15.1
    have kN : k < zN S := by omega
    refine g_aload_n (i := 0) (by decide +kernel) rfl ?_
    refine g_cVV (st := _) (c_Md_laysAll hn hT) k_Md_laysAll l_Md_195 (by decide +kernel) (by omega) rfl rfl rfl rfl (Nat.le_of_ble_eq_true rfl) (by decide) ⟨by decide, by decide⟩ ?_
    rintro υ ⟨hf, hl⟩
    have f1 := f0.of (fun a ha => hf a (by omega))
    have s1 : υ 189 2 = 0 := by rw [hf 189 (by omega)]; exact s0
    have hU : zMc υ S := hT.moved (hf 190 (by omega))
    have uf : ∀ j, υ 189 j = τ 189 j := fun j => by rw [hf 189 (by omega)]
    refine g_aload_n (i := 0) (by decide +kernel) rfl ?_
    refine g_getr f_Md_23 (by decide +kernel) (by omega) rfl rfl ?_
    refine g_iload_n (i := 1) (by decide +kernel) rfl ?_
    refine g_zald (j := k) (by decide +kernel) (by omega) rfl (by omega) (by omega) (by decide) ?_
    refine g_if_eq (off := 12) (tgt := 46) (by decide +kernel) (by decide) ⟨by rw [(hl k kN).2.2.2]; split <;> decide, by rw [(hl k kN).2.2.2]; split <;> decide⟩ (fun h34 => ?_) (fun h34 => ?_)
    · refine g_aload_n (i := 0) (by decide +kernel) rfl ?_
      refine g_getr f_Md_20 (by decide +kernel) (by omega) rfl rfl ?_
      refine g_iload_n (i := 1) (by decide +kernel) rfl ?_
      refine g_lald (j := k) (by decide +kernel) (by omega) rfl (by omega) (by omega) (by decide) ?_
      refine g_l2i (by decide +kernel) ?_
      refine g_retI (by decide +kernel) rfl (Or.inl rfl) ⟨by decide, by decide⟩ ?_
      have kl := hl k kN
      first
        | (have hz : ¬ υ 194 k = 0 := h34
           have ok : zOk S k = true := by
             cases e : zOk S k with
             | true => rfl
             | false => rw [kl.2.2.2, e] at hz; exact absurd rfl hz
           exact zRM.ref f1 (by rw [if_neg (by omega), Int.toNat_natCast, if_pos ok]) (by decide))
        | (have hz : υ 194 k = 0 := h34
           have ok : ¬ zOk S k = true := fun e => by rw [kl.2.2.2, if_pos e] at hz; exact absurd hz (by decide)
           exact zRM.ok f1 (by rw [if_neg (by omega), Int.toNat_natCast, if_neg ok]) s1 (by rw [Int.toNat_natCast]; exact kl.2.2.1))
    · refine g_aload_n (i := 0) (by decide +kernel) rfl ?_
      refine g_bipush (a := 8) (by decide +kernel) (by decide) ?_
      refine g_cVI (st := _) (c_Md_refuse hn) k_Md_refuse l_Md_295 (by decide +kernel) (by omega) rfl rfl rfl rfl (Nat.le_of_ble_eq_true rfl) (by decide) ⟨by decide, by decide⟩ ?_
      rintro a9 σ9 ⟨ea9, hσ9⟩
      obtain rfl := ea9.symm
      subst hσ9
      refine g_goto (off := 10) (tgt := 53) (by decide +kernel) (by decide) ?_
      refine g_retI (by decide +kernel) rfl (Or.inl rfl) ⟨by decide, by decide⟩ ?_
      have kl := hl k kN
      first
        | (have hz : ¬ υ 194 k = 0 := h34
           have ok : zOk S k = true := by
             cases e : zOk S k with
             | true => rfl
             | false => rw [kl.2.2.2, e] at hz; exact absurd rfl hz
           exact zRM.ref f1 (by rw [if_neg (by omega), Int.toNat_natCast, if_pos ok]) (by decide))
        | (have hz : υ 194 k = 0 := h34
           have ok : ¬ zOk S k = true := fun e => by rw [kl.2.2.2, if_pos e] at hz; exact absurd hz (by decide)
           exact zRM.ok f1 (by rw [if_neg (by omega), Int.toNat_natCast, if_neg ok]) s1 (by rw [Int.toNat_natCast]; exact kl.2.2.1))
  · have h15 := zb0.mp h15
    refine g_aload_n (i := 0) (by decide +kernel) rfl ?_
    refine g_iconst (a := 2) (by decide +kernel) ?_
    refine g_cVI (st := _) (c_Md_refuse hn) k_Md_refuse l_Md_295 (by decide +kernel) (by omega) rfl rfl rfl rfl (Nat.le_of_ble_eq_true rfl) (by decide) ⟨by decide, by decide⟩ ?_
    rintro a9 σ9 ⟨ea9, hσ9⟩
    obtain rfl := ea9.symm
    subst hσ9
    refine g_retI (by decide +kernel) rfl (Or.inl rfl) ⟨by decide, by decide⟩ ?_
    exact zRM.ref f0 (if_pos (by omega)) (by decide)
theorem c_Md_pressed {G : zG} {n : Nat} {σ : zSt} {S : zSt} (hn : 220 ≤ n) (hS : zMc σ S) {c t : Int} (z1 : zr c) (z2 : zr t) : Gm G y_Md_pressed m_Md_pressed 1 0 0 [vr G 189, vi c, vi t] n SH σ (zI n SH (fun a σ' => zRM σ σ' a (if c < 0 ∨ t < 0 ∨ 1 < t then 1 else if S 0 8 ≤ c then 8 else 0) (if t = 0 then S 8 c.toNat else S 9 c.toNat))) := by
  refine g_enter (L := [(0, _), (1, _), (2, _)]) (by decide) rfl rfl rfl (Nat.le_of_ble_eq_true rfl) (fun X => ?_)
  have e0 := hS.n
  have e8 := hS.p
  have hN := hS.N
  have hz : zN S = (S 0 0).toNat := rfl
  obtain ⟨z1a, z1b⟩ := id z1
  obtain ⟨z2a, z2b⟩ := id z2
  refine g_aload_n (i := 0) (by decide +kernel) rfl ?_
  refine g_iconst (a := 0) (by decide +kernel) ?_
  refine g_puti f_Md_142 (by decide +kernel) (by omega) rfl rfl ?_
  refine g_aload_n (i := 0) (by decide +kernel) rfl ?_
  refine g_iconst (a := 0) (by decide +kernel) ?_
  refine g_puti f_Md_145 (by decide +kernel) (by omega) rfl rfl ?_
  obtain ⟨τ, eτ⟩ : ∃ τ, τ = zs (zs σ 189 3 0) 189 2 0 := ⟨_, rfl⟩
  rw [← eτ]
  have f0 : zMF σ τ := by rw [eτ]; exact ((zMF.rf σ).put (by decide)).put (by decide)
  have s0 : τ 189 2 = 0 := by rw [eτ, zs_eq]
  have hT : zMc τ S := hS.moved (f0.1 190 (by decide))
  have et := hT.n
  have ep := hT.p
  refine g_iload_n (i := 1) (by decide +kernel) rfl ?_
  refine g_if_lt (off := 12) (tgt := 23) (by decide +kernel) (by decide) ⟨by omega, by omega⟩ (fun h11 => ?_) (fun h11 => ?_)
  · refine g_aload_n (i := 0) (by decide +kernel) rfl ?_
    refine g_iconst (a := 1) (by decide +kernel) ?_
    refine g_cVI (st := _) (c_Md_refuse hn) k_Md_refuse l_Md_295 (by decide +kernel) (by omega) rfl rfl rfl rfl (Nat.le_of_ble_eq_true rfl) (by decide) ⟨by decide, by decide⟩ ?_
    rintro a9 σ9 ⟨ea9, hσ9⟩
    obtain rfl := ea9.symm
    subst hσ9
    refine g_retI (by decide +kernel) rfl (Or.inl rfl) ⟨by decide, by decide⟩ ?_
    exact zRM.ref f0 (if_pos (by omega)) (by decide)
  · refine g_iload_n (i := 2) (by decide +kernel) rfl ?_
    refine g_iconst (a := 0) (by decide +kernel) ?_
    refine g_iconst (a := 1) (by decide +kernel) ?_
    refine g_cSI (st := _) (c_Md_isIn ⟨by omega, by omega⟩ ⟨by omega, by omega⟩ ⟨by omega, by omega⟩) k_Md_isIn l_Md_152 (by decide +kernel) rfl rfl (Nat.le_of_ble_eq_true rfl) (by decide) ⟨by decide, by decide⟩ ?_
    rintro a9 σ9 ⟨ea9, hσ9⟩
    obtain rfl := hσ9.symm
    subst ea9
    refine g_if_ne (off := 9) (tgt := 29) (by decide +kernel) (by decide) zbr (fun h20 => ?_) (fun h20 => ?_)
    · have h20 := zb1.mp h20
      refine g_iload_n (i := 1) (by decide +kernel) rfl ?_
      refine g_aload_n (i := 0) (by decide +kernel) rfl ?_
      refine g_getr f_Md_7 (by decide +kernel) (by omega) rfl rfl ?_
      refine g_iconst (a := 1) (by decide +kernel) ?_
      refine g_iald (j := 1) (by decide +kernel) (by omega) rfl (by omega) (by omega) (by decide) ?_
      refine g_icmp_lt (off := 10) (tgt := 46) (by decide +kernel) (by decide) ⟨by omega, by omega⟩ ⟨by omega, by omega⟩ (fun h36 => ?_) (fun h36 => ?_)
      · obtain ⟨k, rfl⟩ := Int.eq_ofNat_of_zero_le (show 0 ≤ c by omega)
        have kN : k < (S 0 8).toNat := by omega
        refine g_iload_n (i := 2) (by decide +kernel) rfl ?_
        refine g_if_ne (off := 16) (tgt := 63) (by decide +kernel) (by decide) ⟨by omega, by omega⟩ (fun h47 => ?_) (fun h47 => ?_)
        · refine g_aload_n (i := 0) (by decide +kernel) rfl ?_
          refine g_getr f_Md_7 (by decide +kernel) (by omega) rfl rfl ?_
          refine g_sipush (a := 188) (by decide +kernel) (by decide) ?_
          refine g_iload_n (i := 1) (by decide +kernel) rfl ?_
          refine g_iadd (by decide +kernel) ?_
          refine g_iald (j := (188 + k)) (by decide +kernel) (by omega) rfl (by omega) (by omega) (by decide) ?_
          refine g_retI (by decide +kernel) rfl (Or.inl rfl) ⟨by decide, by decide⟩ ?_
          refine zRM.ok f0 (by rw [if_neg (by omega), if_neg (by omega)]) s0 ?_
          rw [Int.toNat_natCast]
          first
            | (have hz : t = 0 := h47
               rw [if_pos hz]; exact hT.ky kN)
            | (have hz : ¬ t = 0 := h47
               rw [if_neg hz]; exact hT.tm kN)
        · refine g_aload_n (i := 0) (by decide +kernel) rfl ?_
          refine g_getr f_Md_7 (by decide +kernel) (by omega) rfl rfl ?_
          refine g_sipush (a := 182) (by decide +kernel) (by decide) ?_
          refine g_iload_n (i := 1) (by decide +kernel) rfl ?_
          refine g_iadd (by decide +kernel) ?_
          refine g_iald (j := (182 + k)) (by decide +kernel) (by omega) rfl (by omega) (by omega) (by decide) ?_
          refine g_goto (off := 13) (tgt := 73) (by decide +kernel) (by decide) ?_
          refine g_retI (by decide +kernel) rfl (Or.inl rfl) ⟨by decide, by decide⟩ ?_
          refine zRM.ok f0 (by rw [if_neg (by omega), if_neg (by omega)]) s0 ?_
          rw [Int.toNat_natCast]
          first
            | (have hz : t = 0 := h47
               rw [if_pos hz]; exact hT.ky kN)
            | (have hz : ¬ t = 0 := h47
               rw [if_neg hz]; exact hT.tm kN)
      · refine g_aload_n (i := 0) (by decide +kernel) rfl ?_
        refine g_bipush (a := 8) (by decide +kernel) (by decide) ?_
        refine g_cVI (st := _) (c_Md_refuse hn) k_Md_refuse l_Md_295 (by decide +kernel) (by omega) rfl rfl rfl rfl (Nat.le_of_ble_eq_true rfl) (by decide) ⟨by decide, by decide⟩ ?_
        rintro a9 σ9 ⟨ea9, hσ9⟩
        obtain rfl := ea9.symm
        subst hσ9
        refine g_retI (by decide +kernel) rfl (Or.inl rfl) ⟨by decide, by decide⟩ ?_
        exact zRM.ref f0 (by rw [if_neg (by omega), if_pos (by omega)]) (by decide)
    · have h20 := zb0.mp h20
      refine g_aload_n (i := 0) (by decide +kernel) rfl ?_
      refine g_iconst (a := 1) (by decide +kernel) ?_
      refine g_cVI (st := _) (c_Md_refuse hn) k_Md_refuse l_Md_295 (by decide +kernel) (by omega) rfl rfl rfl rfl (Nat.le_of_ble_eq_true rfl) (by decide) ⟨by decide, by decide⟩ ?_
      rintro a9 σ9 ⟨ea9, hσ9⟩
      obtain rfl := ea9.symm
      subst hσ9
      refine g_retI (by decide +kernel) rfl (Or.inl rfl) ⟨by decide, by decide⟩ ?_
      exact zRM.ref f0 (if_pos (by omega)) (by decide)
theorem c_Md_status {G : zG} {n : Nat} {σ : zSt} (hn : 220 ≤ n)  : Gm G y_Md_status m_Md_status 0 0 0 [vr G 189] n SH σ (zI n SH (fun a σ' => a = σ 189 2 ∧ σ' = zs σ 189 3 0)) := by
  refine g_enter (L := [(0, _)]) (by decide) rfl rfl rfl (Nat.le_of_ble_eq_true rfl) (fun X => ?_)
  refine g_aload_n (i := 0) (by decide +kernel) rfl ?_
  refine g_iconst (a := 0) (by decide +kernel) ?_
  refine g_puti f_Md_142 (by decide +kernel) (by omega) rfl rfl ?_
  refine g_aload_n (i := 0) (by decide +kernel) rfl ?_
  refine g_geti f_Md_145 (by decide +kernel) (by omega) rfl rfl ?_
  refine g_retI (by decide +kernel) rfl (Or.inl rfl) ⟨by decide, by decide⟩ ?_
  exact ⟨by rw [zs_ne (by omega)], rfl⟩
theorem c_Md_fault {G : zG} {n : Nat} {σ : zSt} {w : Int} (hn : 220 ≤ n) (z1 : zr w) : Gm G y_Md_fault m_Md_fault 0 0 0 [vr G 189, vi w] n SH σ (zI n SH (fun a σ' => a = (if w = 0 then σ 189 12 else if w = 1 then σ 189 13 else -1) ∧ σ' = zs σ 189 3 0)) := by
  refine g_enter (L := [(0, _), (1, _)]) (by decide) rfl rfl rfl (Nat.le_of_ble_eq_true rfl) (fun X => ?_)
  obtain ⟨z1a, z1b⟩ := id z1
  refine g_aload_n (i := 0) (by decide +kernel) rfl ?_
  refine g_iconst (a := 0) (by decide +kernel) ?_
  refine g_puti f_Md_142 (by decide +kernel) (by omega) rfl rfl ?_
  refine g_iload_n (i := 1) (by decide +kernel) rfl ?_
  refine g_if_ne (off := 10) (tgt := 16) (by decide +kernel) (by decide) ⟨by omega, by omega⟩ (fun h6 => ?_) (fun h6 => ?_)
  · refine g_iload_n (i := 1) (by decide +kernel) rfl ?_
    refine g_iconst (a := 1) (by decide +kernel) ?_
    refine g_icmp_ne (off := 10) (tgt := 28) (by decide +kernel) (by decide) ⟨by omega, by omega⟩ ⟨by omega, by omega⟩ (fun h18 => ?_) (fun h18 => ?_)
    · refine g_iconst (a := -1) (by decide +kernel) ?_
      refine g_retI (by decide +kernel) rfl (Or.inl rfl) ⟨by decide, by decide⟩ ?_
      refine ⟨?_, rfl⟩
      first
        | (rw [if_pos (by omega), zs_ne (by omega)])
        | (rw [if_neg (by omega), if_pos (by omega), zs_ne (by omega)])
        | (rw [if_neg (by omega), if_neg (by omega)])
    · refine g_aload_n (i := 0) (by decide +kernel) rfl ?_
      refine g_geti f_Md_38 (by decide +kernel) (by omega) rfl rfl ?_
      refine g_goto (off := 4) (tgt := 29) (by decide +kernel) (by decide) ?_
      refine g_retI (by decide +kernel) rfl (Or.inl rfl) ⟨by decide, by decide⟩ ?_
      refine ⟨?_, rfl⟩
      first
        | (rw [if_pos (by omega), zs_ne (by omega)])
        | (rw [if_neg (by omega), if_pos (by omega), zs_ne (by omega)])
        | (rw [if_neg (by omega), if_neg (by omega)])
  · refine g_aload_n (i := 0) (by decide +kernel) rfl ?_
    refine g_geti f_Md_34 (by decide +kernel) (by omega) rfl rfl ?_
    refine g_goto (off := 16) (tgt := 29) (by decide +kernel) (by decide) ?_
    refine g_retI (by decide +kernel) rfl (Or.inl rfl) ⟨by decide, by decide⟩ ?_
    refine ⟨?_, rfl⟩
    first
      | (rw [if_pos (by omega), zs_ne (by omega)])
      | (rw [if_neg (by omega), if_pos (by omega), zs_ne (by omega)])
      | (rw [if_neg (by omega), if_neg (by omega)])
