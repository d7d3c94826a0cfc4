theorem w_Md_leavesPlaying {G : zG} {X : zX} {n : Nat} {σ : zSt} {S : zSt} {t : Int} (hn : 220 ≤ n) (hM : zMz S) (hS : zMc σ S) (h6 : zSo2 σ S 6 t (zN S))  : ∀ (m : Nat) (i : Nat) (x1 x2 : Int), x2 = (i : Int) → x1 = (zcnt (zlf S t) i : Int) → i ≤ zN S → zN S < i + m → Go G X m_Md_leavesPlaying (1, 0, 0, 0, 0) n SH σ 4 [(0, vr G 189), (1, vi x1), (2, vi x2)] [] (zI n SH (fun a σ' => a = (zcnt (zlf S t) (zN S) : Int) ∧ σ' = σ)) := by
  intro m
  induction m with
  | zero => intro i x1 x2 e2 e1 hi hm; exact absurd hm (by omega)
  | succ m ih =>
    intro i x1 x2 e2 e1 hi hm
    have e0 := hS.n
    have e8 := hS.p
    have hN := hS.N
    have hz : zN S = (S 0 0).toNat := rfl
    subst e2
    have zl := zcnt_le (zlf S t) i
    refine g_iload_n (i := 2) (by decide +kernel) rfl ?_
    refine g_aload_n (i := 0) (by decide +kernel) rfl ?_
    refine g_cVI (st := _) (c_Md_clips hn) k_Md_clips l_Md_148 (by decide +kernel) (by omega) rfl rfl rfl rfl (Nat.le_of_ble_eq_true rfl) (by decide) ⟨by decide, by decide⟩ ?_
    rintro a0 σ9 ⟨ea0, hσ9⟩
    obtain rfl := hσ9.symm
    subst ea0
    refine g_icmp_ge (off := 33) (tgt := 42) (by decide +kernel) (by decide) ⟨by omega, by omega⟩ ⟨by omega, by omega⟩ (fun h9 => ?_) (fun h9 => ?_)
    · refine g_iload_n (i := 1) (by decide +kernel) rfl ?_
      refine g_retI (by decide +kernel) rfl (Or.inl rfl) ⟨by decide, by decide⟩ ?_
      exact ⟨by rw [e1, show i = zN S by omega], rfl⟩
    · have kN : i < zN S := by omega
      have k1 := hS.kd kN
      have kr := hS.rg (show i < 12 by omega)
      have k6 := (zS6 h6 kN).1
      have st6 := zv_st (t := t) hM kN
      refine g_iload_n (i := 1) (by decide +kernel) rfl ?_
      refine g_aload_n (i := 0) (by decide +kernel) rfl ?_
      refine g_iload_n (i := 2) (by decide +kernel) rfl ?_
      refine g_cVI (st := _) (c_Md_kind (k := i) hn (by omega)) k_Md_kind l_Md_182 (by decide +kernel) (by omega) rfl rfl rfl rfl (Nat.le_of_ble_eq_true rfl) (by decide) ⟨by decide, by decide⟩ ?_
      rintro a9 σ9 ⟨ea9, hσ9⟩
      obtain rfl := hσ9.symm
      rw [k1] at ea9
      subst ea9
      refine g_if_ne (off := 15) (tgt := 33) (by decide +kernel) (by decide) ⟨by omega, by omega⟩ (fun h18 => ?_) (fun h18 => ?_)
      · refine g_iconst (a := 0) (by decide +kernel) ?_
        refine g_iadd (by decide +kernel) ?_
        refine g_istore_n (i := 1) (L' := [(0, _), (1, _), (2, _)]) (by decide +kernel) rfl rfl ?_
        refine g_iinc (i := 2) (b := 1) (L' := [(0, _), (1, _), (2, _)]) (by decide +kernel) rfl rfl rfl ?_
        refine g_goto (off := -35) (tgt := 4) (by decide +kernel) (by decide) ?_
        first
          | (have hz : ¬ S 1 i = 0 := h18
             exact ih (i + 1) _ _ (by push_cast; rfl) (by rw [zcnt_f (by unfold zlf; rw [decide_eq_false hz, Bool.and_false])]; omega) (by omega) (by omega))
          | (have hz : ¬ zv S t 1 i = 2 := h26
             exact ih (i + 1) _ _ (by push_cast; rfl) (by rw [zcnt_f (by unfold zlf; rw [decide_eq_false hz, Bool.false_and])]; omega) (by omega) (by omega))
          | (have hz : zv S t 1 i = 2 := h26
             have hy : S 1 i = 0 := h18
             exact ih (i + 1) _ _ (by push_cast; rfl) (by rw [zcnt_t (by unfold zlf; rw [decide_eq_true hz, decide_eq_true hy]; rfl)]; push_cast; omega) (by omega) (by omega))
      · refine g_aload_n (i := 0) (by decide +kernel) rfl ?_
        refine g_iload_n (i := 2) (by decide +kernel) rfl ?_
        refine g_cVI (st := _) (c_Md_plays (k := i) hn (by omega) ⟨by omega, by omega⟩) k_Md_plays l_Md_421 (by decide +kernel) (by omega) rfl rfl rfl rfl (Nat.le_of_ble_eq_true rfl) (by decide) ⟨by decide, by decide⟩ ?_
        rintro a9 σ9 ⟨ea9, hσ9⟩
        obtain rfl := hσ9.symm
        rw [k6] at ea9
        subst ea9
        refine g_if_eq (off := 7) (tgt := 33) (by decide +kernel) (by decide) zbr (fun h26 => ?_) (fun h26 => ?_)
        · have h26 := zb0.mp h26
          refine g_iconst (a := 0) (by decide +kernel) ?_
          refine g_iadd (by decide +kernel) ?_
          refine g_istore_n (i := 1) (L' := [(0, _), (1, _), (2, _)]) (by decide +kernel) rfl rfl ?_
          refine g_iinc (i := 2) (b := 1) (L' := [(0, _), (1, _), (2, _)]) (by decide +kernel) rfl rfl rfl ?_
          refine g_goto (off := -35) (tgt := 4) (by decide +kernel) (by decide) ?_
          first
            | (have hz : ¬ S 1 i = 0 := h18
               exact ih (i + 1) _ _ (by push_cast; rfl) (by rw [zcnt_f (by unfold zlf; rw [decide_eq_false hz, Bool.and_false])]; omega) (by omega) (by omega))
            | (have hz : ¬ zv S t 1 i = 2 := h26
               exact ih (i + 1) _ _ (by push_cast; rfl) (by rw [zcnt_f (by unfold zlf; rw [decide_eq_false hz, Bool.false_and])]; omega) (by omega) (by omega))
            | (have hz : zv S t 1 i = 2 := h26
               have hy : S 1 i = 0 := h18
               exact ih (i + 1) _ _ (by push_cast; rfl) (by rw [zcnt_t (by unfold zlf; rw [decide_eq_true hz, decide_eq_true hy]; rfl)]; push_cast; omega) (by omega) (by omega))
        · have h26 := zb1.mp h26
          refine g_iconst (a := 1) (by decide +kernel) ?_
          refine g_goto (off := 4) (tgt := 34) (by decide +kernel) (by decide) ?_
          refine g_iadd (by decide +kernel) ?_
          refine g_istore_n (i := 1) (L' := [(0, _), (1, _), (2, _)]) (by decide +kernel) rfl rfl ?_
          refine g_iinc (i := 2) (b := 1) (L' := [(0, _), (1, _), (2, _)]) (by decide +kernel) rfl rfl rfl ?_
          refine g_goto (off := -35) (tgt := 4) (by decide +kernel) (by decide) ?_
          first
            | (have hz : ¬ S 1 i = 0 := h18
               exact ih (i + 1) _ _ (by push_cast; rfl) (by rw [zcnt_f (by unfold zlf; rw [decide_eq_false hz, Bool.and_false])]; omega) (by omega) (by omega))
            | (have hz : ¬ zv S t 1 i = 2 := h26
               exact ih (i + 1) _ _ (by push_cast; rfl) (by rw [zcnt_f (by unfold zlf; rw [decide_eq_false hz, Bool.false_and])]; omega) (by omega) (by omega))
            | (have hz : zv S t 1 i = 2 := h26
               have hy : S 1 i = 0 := h18
               exact ih (i + 1) _ _ (by push_cast; rfl) (by rw [zcnt_t (by unfold zlf; rw [decide_eq_true hz, decide_eq_true hy]; rfl)]; push_cast; omega) (by omega) (by omega))
theorem c_Md_leavesPlaying {G : zG} {n : Nat} {σ : zSt} {S : zSt} {t : Int} (hn : 220 ≤ n) (hM : zMz S) (hS : zMc σ S) (h6 : zSo2 σ S 6 t (zN S))  : Gm G y_Md_leavesPlaying m_Md_leavesPlaying 1 0 0 [vr G 189] n SH σ (zI n SH (fun a σ' => a = (zcnt (zlf S t) (zN S) : Int) ∧ σ' = σ)) := by
  refine g_enter (L := [(0, _)]) (by decide) rfl rfl rfl (Nat.le_of_ble_eq_true rfl) (fun X => ?_)
  refine g_iconst (a := 0) (by decide +kernel) ?_
  refine g_istore_n (i := 1) (L' := [(0, _), (1, _)]) (by decide +kernel) rfl rfl ?_
  refine g_iconst (a := 0) (by decide +kernel) ?_
  refine g_istore_n (i := 2) (L' := [(0, _), (1, _), (2, _)]) (by decide +kernel) rfl rfl ?_
  exact w_Md_leavesPlaying hn hM hS h6 (zN S + 1) 0 _ _ rfl rfl (by omega) (by omega)
theorem w_Md_most {G : zG} {X : zX} {n : Nat} {σ : zSt} {S : zSt} {u : Int} (hn : 220 ≤ n) (hM : zMz S) (hu : 0 ≤ u ∧ u ≤ 1)  : ∀ (m : Nat) (i : Nat) (x2 x3 x4 : Int) (τ : zSt), x4 = (i : Int) → (x2, x3) = zgr (fun s => (zcnt (zlf S ((s : Nat) : Int)) (zN S) : Int)) 0 i → (0 ≤ x2 ∧ x2 ≤ 12) → zMF σ τ → τ 189 2 = 0 → zPd τ S → i ≤ 2000 → 2000 < i + m → Go G X m_Md_most (18, 0, 0, 0, 0) n SH τ 36 [(0, vr G 189), (1, vi u), (2, vi x2), (3, vi x3), (4, vi x4)] [] (zI n SH (fun a σ' => zRM σ σ' a 0 (if u = 0 then (zgr (fun s => (zcnt (zlf S ((s : Nat) : Int)) (zN S) : Int)) 0 2000).1 else (zgr (fun s => (zcnt (zlf S ((s : Nat) : Int)) (zN S) : Int)) 0 2000).2))) := by
  intro m
  induction m with
  | zero => intro i x2 x3 x4 τ e4 e2 h2 f1 s1 hP hi hm; exact absurd hm (by omega)
  | succ m ih =>
    intro i x2 x3 x4 τ e4 e2 h2 f1 s1 hP hi hm
    have hN := hP.2.1.N
    have hz : zN S = (S 0 0).toNat := rfl
    subst e4
    have gs := zgr_s (fun s => (zcnt (zlf S ((s : Nat) : Int)) (zN S) : Int)) 0 i
    have e21 : x2 = (zgr (fun s => (zcnt (zlf S ((s : Nat) : Int)) (zN S) : Int)) 0 i).1 := by rw [← e2]
    have e22 : x3 = (zgr (fun s => (zcnt (zlf S ((s : Nat) : Int)) (zN S) : Int)) 0 i).2 := by rw [← e2]
    refine g_iload (i := 4) (by decide +kernel) rfl ?_
    refine g_sipush (a := 1999) (by decide +kernel) (by decide) ?_
    refine g_icmp_gt (off := 49) (tgt := 90) (by decide +kernel) (by decide) ⟨by omega, by omega⟩ ⟨by omega, by omega⟩ (fun h41 => ?_) (fun h41 => ?_)
    · refine g_iload_n (i := 1) (by decide +kernel) rfl ?_
      refine g_if_ne (off := 7) (tgt := 98) (by decide +kernel) (by decide) ⟨by omega, by omega⟩ (fun h91 => ?_) (fun h91 => ?_)
      · refine g_iload_n (i := 3) (by decide +kernel) rfl ?_
        refine g_retI (by decide +kernel) rfl (Or.inl rfl) ⟨by decide, by decide⟩ ?_
        obtain rfl : i = 2000 := by omega
        first
          | (have hz : u = 0 := h91
             exact zRM.ok f1 rfl s1 (by rw [if_pos hz]; exact e21))
          | (have hz : ¬ u = 0 := h91
             exact zRM.ok f1 rfl s1 (by rw [if_neg hz]; exact e22))
      · refine g_iload_n (i := 2) (by decide +kernel) rfl ?_
        refine g_goto (off := 4) (tgt := 99) (by decide +kernel) (by decide) ?_
        refine g_retI (by decide +kernel) rfl (Or.inl rfl) ⟨by decide, by decide⟩ ?_
        obtain rfl : i = 2000 := by omega
        first
          | (have hz : u = 0 := h91
             exact zRM.ok f1 rfl s1 (by rw [if_pos hz]; exact e21))
          | (have hz : ¬ u = 0 := h91
             exact zRM.ok f1 rfl s1 (by rw [if_neg hz]; exact e22))
    · refine g_aload_n (i := 0) (by decide +kernel) rfl ?_
      refine g_bipush (a := 6) (by decide +kernel) (by decide) ?_
      refine g_iload (i := 4) (by decide +kernel) rfl ?_
      refine g_cVV (st := _) (c_Md_laysSlot (s := 6) (t := (i : Int)) hn (hP.x (by decide) _) (fun i hi _ => by omega) ⟨by omega, by omega⟩) k_Md_laysSlot l_Md_372 (by decide +kernel) (by omega) rfl rfl rfl rfl (Nat.le_of_ble_eq_true rfl) (by decide) ⟨by decide, by decide⟩ ?_
      rintro ω ⟨hr6, h6⟩
      have f2 := f1.of (fun a ha => hr6.1 a (by omega))
      have s2 : ω 189 2 = 0 := by rw [hr6.1 189 (by omega)]; exact s1
      have hP2 := hP.slot (by decide) hr6
      refine g_aload_n (i := 0) (by decide +kernel) rfl ?_
      refine g_cVI (st := _) (c_Md_leavesPlaying (t := (i : Int)) hn hM hP2.2.1 h6) k_Md_leavesPlaying l_Md_455 (by decide +kernel) (by omega) rfl rfl rfl rfl (Nat.le_of_ble_eq_true rfl) (by decide) ⟨by decide, by decide⟩ ?_
      rintro a9 σ9 ⟨ea9, hσ9⟩
      obtain rfl := hσ9.symm
      have cl := zcnt_le (zlf S (i : Int)) (zN S)
      refine g_istore (i := 5) (L' := [(0, _), (1, _), (2, _), (3, _), (4, _), (5, _)]) (by decide +kernel) rfl rfl ?_
      refine g_iload (i := 5) (by decide +kernel) rfl ?_
      refine g_iload_n (i := 2) (by decide +kernel) rfl ?_
      refine g_icmp_le (off := 8) (tgt := 69) (by decide +kernel) (by decide) ⟨by omega, by omega⟩ ⟨by omega, by omega⟩ (fun h61 => ?_) (fun h61 => ?_)
      · refine g_iload_n (i := 3) (by decide +kernel) rfl ?_
        refine g_istore_n (i := 3) (L' := [(0, _), (1, _), (2, _), (3, _), (4, _), (5, _)]) (by decide +kernel) rfl rfl ?_
        refine g_iload (i := 5) (by decide +kernel) rfl ?_
        refine g_iload_n (i := 2) (by decide +kernel) rfl ?_
        refine g_icmp_le (off := 8) (tgt := 82) (by decide +kernel) (by decide) ⟨by omega, by omega⟩ ⟨by omega, by omega⟩ (fun h74 => ?_) (fun h74 => ?_)
        · refine g_iload_n (i := 2) (by decide +kernel) rfl ?_
          refine g_istore_n (i := 2) (L' := [(0, _), (1, _), (2, _), (3, _), (4, _), (5, _)]) (by decide +kernel) rfl rfl ?_
          refine g_iinc (i := 4) (b := 1) (L' := [(0, _), (1, _), (2, _), (3, _), (4, _), (5, _)]) (by decide +kernel) rfl rfl rfl ?_
          refine g_goto (off := -51) (tgt := 36) (by decide +kernel) (by decide) ?_
          refine g_less [0, 1, 2, 3, 4] rfl ?_
          first
            | (exfalso; omega)
            | (rw [if_neg (by rw [← e21]; show ¬ x2 < (zcnt (zlf S ((i : Nat) : Int)) (zN S) : Int); omega)] at gs
               exact ih (i + 1) _ _ _ ω (by push_cast; rfl) (by rw [gs]; exact e2) h2 f2 s2 hP2 (by omega) (by omega))
            | (rw [if_pos (by rw [← e21]; show x2 < (zcnt (zlf S ((i : Nat) : Int)) (zN S) : Int); omega)] at gs
               exact ih (i + 1) _ _ _ ω (by push_cast; rfl) (by rw [gs, ea9]) (by omega) f2 s2 hP2 (by omega) (by omega))
        · refine g_iload (i := 5) (by decide +kernel) rfl ?_
          refine g_goto (off := 4) (tgt := 83) (by decide +kernel) (by decide) ?_
          refine g_istore_n (i := 2) (L' := [(0, _), (1, _), (2, _), (3, _), (4, _), (5, _)]) (by decide +kernel) rfl rfl ?_
          refine g_iinc (i := 4) (b := 1) (L' := [(0, _), (1, _), (2, _), (3, _), (4, _), (5, _)]) (by decide +kernel) rfl rfl rfl ?_
          refine g_goto (off := -51) (tgt := 36) (by decide +kernel) (by decide) ?_
          refine g_less [0, 1, 2, 3, 4] rfl ?_
          first
            | (exfalso; omega)
            | (rw [if_neg (by rw [← e21]; show ¬ x2 < (zcnt (zlf S ((i : Nat) : Int)) (zN S) : Int); omega)] at gs
               exact ih (i + 1) _ _ _ ω (by push_cast; rfl) (by rw [gs]; exact e2) h2 f2 s2 hP2 (by omega) (by omega))
            | (rw [if_pos (by rw [← e21]; show x2 < (zcnt (zlf S ((i : Nat) : Int)) (zN S) : Int); omega)] at gs
               exact ih (i + 1) _ _ _ ω (by push_cast; rfl) (by rw [gs, ea9]) (by omega) f2 s2 hP2 (by omega) (by omega))
      · refine g_iload (i := 4) (by decide +kernel) rfl ?_
        refine g_goto (off := 4) (tgt := 70) (by decide +kernel) (by decide) ?_
        refine g_istore_n (i := 3) (L' := [(0, _), (1, _), (2, _), (3, _), (4, _), (5, _)]) (by decide +kernel) rfl rfl ?_
        refine g_iload (i := 5) (by decide +kernel) rfl ?_
        refine g_iload_n (i := 2) (by decide +kernel) rfl ?_
        refine g_icmp_le (off := 8) (tgt := 82) (by decide +kernel) (by decide) ⟨by omega, by omega⟩ ⟨by omega, by omega⟩ (fun h74 => ?_) (fun h74 => ?_)
        · refine g_iload_n (i := 2) (by decide +kernel) rfl ?_
          refine g_istore_n (i := 2) (L' := [(0, _), (1, _), (2, _), (3, _), (4, _), (5, _)]) (by decide +kernel) rfl rfl ?_
          refine g_iinc (i := 4) (b := 1) (L' := [(0, _), (1, _), (2, _), (3, _), (4, _), (5, _)]) (by decide +kernel) rfl rfl rfl ?_
          refine g_goto (off := -51) (tgt := 36) (by decide +kernel) (by decide) ?_
          refine g_less [0, 1, 2, 3, 4] rfl ?_
          first
            | (exfalso; omega)
            | (rw [if_neg (by rw [← e21]; show ¬ x2 < (zcnt (zlf S ((i : Nat) : Int)) (zN S) : Int); omega)] at gs
               exact ih (i + 1) _ _ _ ω (by push_cast; rfl) (by rw [gs]; exact e2) h2 f2 s2 hP2 (by omega) (by omega))
            | (rw [if_pos (by rw [← e21]; show x2 < (zcnt (zlf S ((i : Nat) : Int)) (zN S) : Int); omega)] at gs
               exact ih (i + 1) _ _ _ ω (by push_cast; rfl) (by rw [gs, ea9]) (by omega) f2 s2 hP2 (by omega) (by omega))
        · refine g_iload (i := 5) (by decide +kernel) rfl ?_
          refine g_goto (off := 4) (tgt := 83) (by decide +kernel) (by decide) ?_
          refine g_istore_n (i := 2) (L' := [(0, _), (1, _), (2, _), (3, _), (4, _), (5, _)]) (by decide +kernel) rfl rfl ?_
          refine g_iinc (i := 4) (b := 1) (L' := [(0, _), (1, _), (2, _), (3, _), (4, _), (5, _)]) (by decide +kernel) rfl rfl rfl ?_
          refine g_goto (off := -51) (tgt := 36) (by decide +kernel) (by decide) ?_
          refine g_less [0, 1, 2, 3, 4] rfl ?_
          first
            | (exfalso; omega)
            | (rw [if_neg (by rw [← e21]; show ¬ x2 < (zcnt (zlf S ((i : Nat) : Int)) (zN S) : Int); omega)] at gs
               exact ih (i + 1) _ _ _ ω (by push_cast; rfl) (by rw [gs]; exact e2) h2 f2 s2 hP2 (by omega) (by omega))
            | (rw [if_pos (by rw [← e21]; show x2 < (zcnt (zlf S ((i : Nat) : Int)) (zN S) : Int); omega)] at gs
               exact ih (i + 1) _ _ _ ω (by push_cast; rfl) (by rw [gs, ea9]) (by omega) f2 s2 hP2 (by omega) (by omega))
theorem c_Md_most {G : zG} {n : Nat} {σ : zSt} {S : zSt} (hn : 220 ≤ n) (hM : zMz S) (hS : zMc σ S) {u : Int} (z1 : zr u) : Gm G y_Md_most m_Md_most 18 0 0 [vr G 189, vi u] n SH σ (zI n SH (fun a σ' => zRM σ σ' a (if u < 0 ∨ 1 < u then 1 else 0) (if u = 0 then (zgr (fun s => (zcnt (zlf S ((s : Nat) : Int)) (zN S) : Int)) 0 2000).1 else (zgr (fun s => (zcnt (zlf S ((s : Nat) : Int)) (zN S) : Int)) 0 2000).2))) := by
  refine g_enter (L := [(0, _), (1, _)]) (by decide) rfl rfl rfl (Nat.le_of_ble_eq_true rfl) (fun X => ?_)
  have e0 := hS.n
  have e8 := hS.p
  have hN := hS.N
  have hz : zN S = (S 0 0).toNat := rfl
  obtain ⟨z1a, z1b⟩ := id z1
  refine g_aload_n (i := 0) (by decide +kernel) rfl ?_
  refine g_iconst (a := 0) (by decide +kernel) ?_
  refine g_puti f_Md_142 (by decide +kernel) (by omega) rfl rfl ?_
  refine g_aload_n (i := 0) (by decide +kernel) rfl ?_
  refine g_iconst (a := 0) (by decide +kernel) ?_
  refine g_puti f_Md_145 (by decide +kernel) (by omega) rfl rfl ?_
  obtain ⟨τ, eτ⟩ : ∃ τ, τ = zs (zs σ 189 3 0) 189 2 0 := ⟨_, rfl⟩
  rw [← eτ]
  have f0 : zMF σ τ := by rw [eτ]; exact ((zMF.rf σ).put (by decide)).put (by decide)
  have s0 : τ 189 2 = 0 := by rw [eτ, zs_eq]
  have hT : zMc τ S := hS.moved (f0.1 190 (by decide))
  have et := hT.n
  have ep := hT.p
  refine g_iload_n (i := 1) (by decide +kernel) rfl ?_
  refine g_iconst (a := 0) (by decide +kernel) ?_
  refine g_iconst (a := 1) (by decide +kernel) ?_
  refine g_cSI (st := _) (c_Md_isIn ⟨by omega, by omega⟩ ⟨by omega, by omega⟩ ⟨by omega, by omega⟩) k_Md_isIn l_Md_152 (by decide +kernel) rfl rfl (Nat.le_of_ble_eq_true rfl) (by decide) ⟨by decide, by decide⟩ ?_
  rintro a9 σ9 ⟨ea9, hσ9⟩
  obtain rfl := hσ9.symm
  subst ea9
  refine g_if_ne (off := 9) (tgt := 25) (by decide +kernel) (by decide) zbr (fun h16 => ?_) (fun h16 => ?_)
  · have h16 := zb1.mp h16
    refine g_aload_n (i := 0) (by decide +kernel) rfl ?_
    refine g_cVV (st := _) (c_Md_laysPresses hn hM hT) k_Md_laysPresses l_Md_375 (by decide +kernel) (by omega) rfl rfl rfl rfl (Nat.le_of_ble_eq_true rfl) (by decide) ⟨by decide, by decide⟩ ?_
    rintro υ ⟨hf, hP⟩
    have f1 := f0.of (fun a ha => hf a (by omega))
    have s1 : υ 189 2 = 0 := by rw [hf 189 (by omega)]; exact s0
    refine g_iconst (a := 0) (by decide +kernel) ?_
    refine g_istore_n (i := 2) (L' := [(0, _), (1, _), (2, _)]) (by decide +kernel) rfl rfl ?_
    refine g_iconst (a := 0) (by decide +kernel) ?_
    refine g_istore_n (i := 3) (L' := [(0, _), (1, _), (2, _), (3, _)]) (by decide +kernel) rfl rfl ?_
    refine g_iconst (a := 0) (by decide +kernel) ?_
    refine g_istore (i := 4) (L' := [(0, _), (1, _), (2, _), (3, _), (4, _)]) (by decide +kernel) rfl rfl ?_
    rw [if_neg (by omega)]
    exact w_Md_most hn hM (by omega) 2001 0 _ _ _ υ rfl rfl (by omega) f1 s1 hP (by omega) (by omega)
  · have h16 := zb0.mp h16
    refine g_aload_n (i := 0) (by decide +kernel) rfl ?_
    refine g_iconst (a := 1) (by decide +kernel) ?_
    refine g_cVI (st := _) (c_Md_refuse hn) k_Md_refuse l_Md_295 (by decide +kernel) (by omega) rfl rfl rfl rfl (Nat.le_of_ble_eq_true rfl) (by decide) ⟨by decide, by decide⟩ ?_
    rintro a9 σ9 ⟨ea9, hσ9⟩
    obtain rfl := ea9.symm
    subst hσ9
    refine g_retI (by decide +kernel) rfl (Or.inl rfl) ⟨by decide, by decide⟩ ?_
    exact zRM.ref f0 (if_pos (by omega)) (by decide)
theorem w_Md_gaps {G : zG} {X : zX} {n : Nat} {σ : zSt} {S : zSt} {l : Nat} (hn : 220 ≤ n) (hM : zMz S) (hl : l ≤ 1999)  : ∀ (m : Nat) (i : Nat) (x2 x3 : Int) (τ : zSt), x3 = (i : Int) → x2 = (zcnt (fun s => decide (zcnt (zlf S ((s : Nat) : Int)) (zN S) = 0)) i : Int) → zMF σ τ → τ 189 2 = 0 → zPd τ S → i ≤ l → l < i + m → Go G X m_Md_gaps (18, 0, 0, 0, 0) n SH τ 24 [(0, vr G 189), (1, vi (l : Int)), (2, vi x2), (3, vi x3)] [] (zI n SH (fun a σ' => zRM σ σ' a 0 (zcnt (fun s => decide (zcnt (zlf S ((s : Nat) : Int)) (zN S) = 0)) l : Int))) := by
  intro m
  induction m with
  | zero => intro i x2 x3 τ e3 e2 f1 s1 hP hi hm; exact absurd hm (by omega)
  | succ m ih =>
    intro i x2 x3 τ e3 e2 f1 s1 hP hi hm
    have hN := hP.2.1.N
    have hz : zN S = (S 0 0).toNat := rfl
    subst e3
    have zl := zcnt_le (fun s => decide (zcnt (zlf S ((s : Nat) : Int)) (zN S) = 0)) i
    refine g_iload_n (i := 3) (by decide +kernel) rfl ?_
    refine g_iload_n (i := 1) (by decide +kernel) rfl ?_
    refine g_icmp_ge (off := 31) (tgt := 57) (by decide +kernel) (by decide) ⟨by omega, by omega⟩ ⟨by omega, by omega⟩ (fun h26 => ?_) (fun h26 => ?_)
    · refine g_iload_n (i := 2) (by decide +kernel) rfl ?_
      refine g_retI (by decide +kernel) rfl (Or.inl rfl) ⟨by decide, by decide⟩ ?_
      exact zRM.ok f1 rfl s1 (by rw [e2, show i = l by omega])
    · refine g_aload_n (i := 0) (by decide +kernel) rfl ?_
      refine g_bipush (a := 6) (by decide +kernel) (by decide) ?_
      refine g_iload_n (i := 3) (by decide +kernel) rfl ?_
      refine g_cVV (st := _) (c_Md_laysSlot (s := 6) (t := (i : Int)) hn (hP.x (by decide) _) (fun i hi _ => by omega) ⟨by omega, by omega⟩) k_Md_laysSlot l_Md_372 (by decide +kernel) (by omega) rfl rfl rfl rfl (Nat.le_of_ble_eq_true rfl) (by decide) ⟨by decide, by decide⟩ ?_
      rintro ω ⟨hr6, h6⟩
      have f2 := f1.of (fun a ha => hr6.1 a (by omega))
      have s2 : ω 189 2 = 0 := by rw [hr6.1 189 (by omega)]; exact s1
      have hP2 := hP.slot (by decide) hr6
      refine g_iload_n (i := 2) (by decide +kernel) rfl ?_
      refine g_aload_n (i := 0) (by decide +kernel) rfl ?_
      refine g_cVI (st := _) (c_Md_leavesPlaying (t := (i : Int)) hn hM hP2.2.1 h6) k_Md_leavesPlaying l_Md_455 (by decide +kernel) (by omega) rfl rfl rfl rfl (Nat.le_of_ble_eq_true rfl) (by decide) ⟨by decide, by decide⟩ ?_
      rintro a9 σ9 ⟨ea9, hσ9⟩
      obtain rfl := hσ9.symm
      have cl := zcnt_le (zlf S (i : Int)) (zN S)
      refine g_if_ne (off := 7) (tgt := 48) (by decide +kernel) (by decide) ⟨by omega, by omega⟩ (fun h41 => ?_) (fun h41 => ?_)
      · refine g_iconst (a := 0) (by decide +kernel) ?_
        refine g_iadd (by decide +kernel) ?_
        refine g_istore_n (i := 2) (L' := [(0, _), (1, _), (2, _), (3, _)]) (by decide +kernel) rfl rfl ?_
        refine g_iinc (i := 3) (b := 1) (L' := [(0, _), (1, _), (2, _), (3, _)]) (by decide +kernel) rfl rfl rfl ?_
        refine g_goto (off := -30) (tgt := 24) (by decide +kernel) (by decide) ?_
        first
          | (have hz : a9 ≠ 0 := h41
             exact ih (i + 1) _ _ ω (by push_cast; rfl) (by rw [zcnt_f (decide_eq_false (by omega))]; omega) f2 s2 hP2 (by omega) (by omega))
          | (have hz : a9 = 0 := h41
             exact ih (i + 1) _ _ ω (by push_cast; rfl) (by rw [zcnt_t (decide_eq_true (by omega))]; push_cast; omega) f2 s2 hP2 (by omega) (by omega))
      · refine g_iconst (a := 1) (by decide +kernel) ?_
        refine g_goto (off := 4) (tgt := 49) (by decide +kernel) (by decide) ?_
        refine g_iadd (by decide +kernel) ?_
        refine g_istore_n (i := 2) (L' := [(0, _), (1, _), (2, _), (3, _)]) (by decide +kernel) rfl rfl ?_
        refine g_iinc (i := 3) (b := 1) (L' := [(0, _), (1, _), (2, _), (3, _)]) (by decide +kernel) rfl rfl rfl ?_
        refine g_goto (off := -30) (tgt := 24) (by decide +kernel) (by decide) ?_
        first
          | (have hz : a9 ≠ 0 := h41
             exact ih (i + 1) _ _ ω (by push_cast; rfl) (by rw [zcnt_f (decide_eq_false (by omega))]; omega) f2 s2 hP2 (by omega) (by omega))
          | (have hz : a9 = 0 := h41
             exact ih (i + 1) _ _ ω (by push_cast; rfl) (by rw [zcnt_t (decide_eq_true (by omega))]; push_cast; omega) f2 s2 hP2 (by omega) (by omega))
theorem c_Md_gaps {G : zG} {n : Nat} {σ : zSt} {S : zSt} (hn : 220 ≤ n) (hM : zMz S) (hS : zMc σ S) (hl : 0 ≤ zlast S ∧ zlast S ≤ 1999) : Gm G y_Md_gaps m_Md_gaps 18 0 0 [vr G 189] n SH σ (zI n SH (fun a σ' => zRM σ σ' a 0 (zcnt (fun s => decide (zcnt (zlf S ((s : Nat) : Int)) (zN S) = 0)) (zlast S).toNat : Int))) := by
  refine g_enter (L := [(0, _)]) (by decide) rfl rfl rfl (Nat.le_of_ble_eq_true rfl) (fun X => ?_)
  have e0 := hS.n
  have e8 := hS.p
  have hN := hS.N
  have hz : zN S = (S 0 0).toNat := rfl
  refine g_aload_n (i := 0) (by decide +kernel) rfl ?_
  refine g_iconst (a := 0) (by decide +kernel) ?_
  refine g_puti f_Md_142 (by decide +kernel) (by omega) rfl rfl ?_
  refine g_aload_n (i := 0) (by decide +kernel) rfl ?_
  refine g_iconst (a := 0) (by decide +kernel) ?_
  refine g_puti f_Md_145 (by decide +kernel) (by omega) rfl rfl ?_
  obtain ⟨τ, eτ⟩ : ∃ τ, τ = zs (zs σ 189 3 0) 189 2 0 := ⟨_, rfl⟩
  rw [← eτ]
  have f0 : zMF σ τ := by rw [eτ]; exact ((zMF.rf σ).put (by decide)).put (by decide)
  have s0 : τ 189 2 = 0 := by rw [eτ, zs_eq]
  have hT : zMc τ S := hS.moved (f0.1 190 (by decide))
  have et := hT.n
  have ep := hT.p
  refine g_aload_n (i := 0) (by decide +kernel) rfl ?_
  refine g_cVL (st := _) (c_Md_lasts hn hT) k_Md_lasts l_Md_163 (by decide +kernel) (by omega) rfl rfl rfl rfl (Nat.le_of_ble_eq_true rfl) (by decide) ⟨by decide, by decide⟩ ?_
  rintro a9 υ ⟨ea9, gf, gl⟩
  obtain ⟨l, el⟩ := Int.eq_ofNat_of_zero_le hl.1
  rw [el] at ea9
  subst ea9
  have f0 := f0.of (fun a ha => gf a (by omega))
  have s0 : υ 189 2 = 0 := by rw [gf 189 (by omega)]; exact s0
  have hT : zMc υ S := hS.moved (f0.1 190 (by decide))
  refine g_l2i (by decide +kernel) ?_
  refine g_istore_n (i := 1) (L' := [(0, _), (1, _)]) (by decide +kernel) rfl rfl ?_
  refine g_aload_n (i := 0) (by decide +kernel) rfl ?_
  refine g_cVV (st := _) (c_Md_laysPresses hn hM hT) k_Md_laysPresses l_Md_375 (by decide +kernel) (by omega) rfl rfl rfl rfl (Nat.le_of_ble_eq_true rfl) (by decide) ⟨by decide, by decide⟩ ?_
  rintro ω ⟨hf, hP⟩
  have f1 := f0.of (fun a ha => hf a (by omega))
  have s1 : ω 189 2 = 0 := by rw [hf 189 (by omega)]; exact s0
  refine g_iconst (a := 0) (by decide +kernel) ?_
  refine g_istore_n (i := 2) (L' := [(0, _), (1, _), (2, _)]) (by decide +kernel) rfl rfl ?_
  refine g_iconst (a := 0) (by decide +kernel) ?_
  refine g_istore_n (i := 3) (L' := [(0, _), (1, _), (2, _), (3, _)]) (by decide +kernel) rfl rfl ?_
  rw [show (zlast S).toNat = l by omega]
  exact w_Md_gaps hn hM (by omega) (l + 1) 0 _ _ ω rfl rfl f1 s1 hP (by omega) (by omega)
