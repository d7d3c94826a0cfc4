/-! ALL TIMES of a clip -/
def zTm (τ S : zSt) (k T : Nat) : Prop := ∀ t, t < T → τ 214 t = (if zv S (t : Int) 1 k = 2 then 1 else 0) ∧ τ 215 t = zv S (t : Int) 2 k
def zMf3 (σ τ : zSt) : Prop := ∀ a, (a < 191 ∨ (195 < a ∧ a < 202) ∨ (207 < a ∧ a ≠ 214 ∧ a ≠ 215)) → τ a = σ a
theorem zpl_iff1 {S : zSt} {k t : Nat} (h : zMz S) (hk : k < zN S) : zplay S k t ≠ -1 ↔ zv S (t : Int) 1 k = 2 := by
  unfold zplay
  by_cases z : zv S (t : Int) 1 k = 2
  · rw [if_pos z]
    have := (zv_run h hk (Or.inl z)).2.2.1
    exact ⟨fun _ => z, fun _ => by omega⟩
  · rw [if_neg z]
    exact ⟨fun y => absurd rfl y, fun y => absurd y z⟩
theorem w_Md_laysTimes {G : zG} {X : zX} {n : Nat} {σ : zSt} {S : zSt} {k : Nat} (hn : 220 ≤ n) (hM : zMz S) (hS : zMc σ S) (hk : k < zN S)  : ∀ (m : Nat) (i : Nat) (x2 : Int) (τ : zSt), x2 = (i : Int) → zMf3 σ τ → zPd τ S → zTm τ S k i → i ≤ 2000 → 2000 < i + m → Go G X m_Md_laysTimes (18, 0, 0, 0, 0) n SH τ 6 [(0, vr G 189), (1, vi (k : Int)), (2, vi x2)] [] (zV n SH (fun σ' => zMf3 σ σ' ∧ zPd σ' S ∧ zTm σ' S k 2000)) := by
  intro m
  induction m with
  | zero => intro i x2 τ e2 hf hP hT hi hm; exact absurd hm (by omega)
  | succ m ih =>
    intro i x2 τ e2 hf hP hT hi hm
    have e0 := hS.n
    have e8 := hS.p
    have hN := hS.N
    have hz : zN S = (S 0 0).toNat := rfl
    subst e2
    refine g_iload_n (i := 2) (by decide +kernel) rfl ?_
    refine g_sipush (a := 1999) (by decide +kernel) (by decide) ?_
    refine g_icmp_gt (off := 38) (tgt := 48) (by decide +kernel) (by decide) ⟨by omega, by omega⟩ ⟨by omega, by omega⟩ (fun h10 => ?_) (fun h10 => ?_)
    · refine g_retV (by decide +kernel) rfl ⟨by decide, by decide⟩ ?_
      rw [show i = 2000 by omega] at hT
      exact ⟨hf, hP, hT⟩
    · refine g_aload_n (i := 0) (by decide +kernel) rfl ?_
      refine g_bipush (a := 6) (by decide +kernel) (by decide) ?_
      refine g_iload_n (i := 2) (by decide +kernel) rfl ?_
      refine g_cVV (st := _) (c_Md_laysSlot (s := 6) (t := (i : Int)) hn (hP.x (by decide) _) (fun i hi _ => by omega) ⟨by omega, by omega⟩) k_Md_laysSlot l_Md_372 (by decide +kernel) (by omega) rfl rfl rfl rfl (Nat.le_of_ble_eq_true rfl) (by decide) ⟨by decide, by decide⟩ ?_
      rintro ω ⟨hr6, h6⟩
      have hP2 := hP.slot (by decide) hr6
      have k6 := zS6 h6 hk
      have s6 := zv_st (t := (i : Int)) hM hk
      refine g_aload_n (i := 0) (by decide +kernel) rfl ?_
      refine g_getr f_Md_124 (by decide +kernel) (by omega) rfl rfl ?_
      refine g_iload_n (i := 2) (by decide +kernel) rfl ?_
      refine g_aload_n (i := 0) (by decide +kernel) rfl ?_
      refine g_iload_n (i := 1) (by decide +kernel) rfl ?_
      refine g_cVI (st := _) (c_Md_plays (k := k) hn (by omega) ⟨by omega, by omega⟩) k_Md_plays l_Md_421 (by decide +kernel) (by omega) rfl rfl rfl rfl (Nat.le_of_ble_eq_true rfl) (by decide) ⟨by decide, by decide⟩ ?_
      rintro a9 σ9 ⟨ea9, hσ9⟩
      obtain rfl := hσ9.symm
      rw [k6.1] at ea9
      have v01 : a9 = 0 ∨ a9 = 1 := by rw [ea9]; exact zb01
      refine g_zast (j := i) (by decide +kernel) (by omega) rfl (by omega) (by omega) (by decide) (by omega) ?_
      refine g_aload_n (i := 0) (by decide +kernel) rfl ?_
      refine g_getr f_Md_127 (by decide +kernel) (by omega) rfl rfl ?_
      refine g_iload_n (i := 2) (by decide +kernel) rfl ?_
      refine g_aload_n (i := 0) (by decide +kernel) rfl ?_
      refine g_iload_n (i := 1) (by decide +kernel) rfl ?_
      refine g_cVL (st := _) (c_Md_localOf (k := k) hn (by omega)) k_Md_localOf l_Md_396 (by decide +kernel) (by omega) rfl rfl rfl rfl (Nat.le_of_ble_eq_true rfl) (by decide) ⟨by decide, by decide⟩ ?_
      rintro b9 σ9 ⟨eb9, hσ9⟩
      obtain rfl := hσ9.symm
      rw [zs_other (show 203 ≠ 214 by decide), k6.2.1] at eb9
      refine g_last (j := i) (by decide +kernel) (by omega) rfl (by omega) (by omega) (by decide) ?_
      refine g_iinc (i := 2) (b := 1) (L' := [(0, _), (1, _), (2, _)]) (by decide +kernel) rfl rfl rfl ?_
      refine g_goto (off := -39) (tgt := 6) (by decide +kernel) (by decide) ?_
      refine ih (i + 1) _ _ (by push_cast; rfl) (fun a ha => by rw [zs_other (by omega), zs_other (by omega), hr6.1 a (by omega)]; exact hf a ha) (hP2.moved (fun a ha => by rw [zs_other (by omega), zs_other (by omega)])) (fun t ht => ?_) (by omega) (by omega)
      by_cases z : t = i
      · subst z
        rw [zs_other (show 214 ≠ 215 by decide), zs_eq, zs_eq]
        exact ⟨ea9, eb9⟩
      · rw [zs_other (show 214 ≠ 215 by decide), zs_ne (fun y => z y.2), zs_ne (fun y => z y.2), zs_other (show 215 ≠ 214 by decide), hr6.1 214 (by omega), hr6.1 215 (by omega)]
        exact hT t (by omega)
theorem c_Md_laysTimes {G : zG} {n : Nat} {σ : zSt} {S : zSt} {k : Nat} (hn : 220 ≤ n) (hM : zMz S) (hS : zMc σ S) (hk : k < zN S)  : Gm G y_Md_laysTimes m_Md_laysTimes 18 0 0 [vr G 189, vi (k : Int)] n SH σ (zV n SH (fun σ' => zMf3 σ σ' ∧ zPd σ' S ∧ zTm σ' S k 2000)) := by
  refine g_enter (L := [(0, _), (1, _)]) (by decide) rfl rfl rfl (Nat.le_of_ble_eq_true rfl) (fun X => ?_)
  refine g_aload_n (i := 0) (by decide +kernel) rfl ?_
  refine g_cVV (st := _) (c_Md_laysPresses hn hM hS) k_Md_laysPresses l_Md_375 (by decide +kernel) (by omega) rfl rfl rfl rfl (Nat.le_of_ble_eq_true rfl) (by decide) ⟨by decide, by decide⟩ ?_
  rintro υ ⟨hf, hP⟩
  refine g_iconst (a := 0) (by decide +kernel) ?_
  refine g_istore_n (i := 2) (L' := [(0, _), (1, _), (2, _)]) (by decide +kernel) rfl rfl ?_
  exact (w_Md_laysTimes hn hM hS hk 2001 0 _ υ rfl (fun a ha => hf a (by omega)) hP (fun t ht => by omega) (by omega) (by omega))
theorem w_Md_ticks {G : zG} {X : zX} {n : Nat} {σ : zSt} {S υ : zSt} {k : Nat} (hn : 220 ≤ n) (hM : zMz S) (hq : zTm υ S k 2000) (kN : k < zN S) {post : zPost} (kk : Go G X m_Md_ticks (19, 0, 0, 0, 0) n SH υ 64 [(0, vr G 189), (1, vi (k : Int)), (2, vi (zcnt (fun s => decide (zv S (s : Int) 1 k = 2 ∧ zv S (s : Int) 1 k = 2)) 2000 : Int)), (3, vi 2000)] [vi (zcnt (fun s => decide (zv S (s : Int) 1 k = 2 ∧ zv S (s : Int) 1 k = 2)) 2000 : Int)] post)  : ∀ (m : Nat) (i : Nat) (x2 x3 : Int), x3 = (i : Int) → x2 = (zcnt (fun s => decide (zv S (s : Int) 1 k = 2 ∧ zv S (s : Int) 1 k = 2)) i : Int) → i ≤ 2000 → 2000 < i + m → Go G X m_Md_ticks (19, 0, 0, 0, 0) n SH υ 33 [(0, vr G 189), (1, vi (k : Int)), (2, vi x2), (3, vi x3)] [] (post) := by
  intro m
  induction m with
  | zero => intro i x2 x3 e3 e2 hi hm; exact absurd hm (by omega)
  | succ m ih =>
    intro i x2 x3 e3 e2 hi hm
    subst e3
    have zl := zcnt_le (fun s => decide (zv S (s : Int) 1 k = 2 ∧ zv S (s : Int) 1 k = 2)) i
    refine g_iload_n (i := 3) (by decide +kernel) rfl ?_
    refine g_sipush (a := 1999) (by decide +kernel) (by decide) ?_
    refine g_icmp_gt (off := 26) (tgt := 63) (by decide +kernel) (by decide) ⟨by omega, by omega⟩ ⟨by omega, by omega⟩ (fun h37 => ?_) (fun h37 => ?_)
    · refine g_iload_n (i := 2) (by decide +kernel) rfl ?_
      obtain rfl : i = 2000 := by omega
      subst e2
      exact kk
    · have q := (hq i (by omega)).1
      refine g_iload_n (i := 2) (by decide +kernel) rfl ?_
      refine g_aload_n (i := 0) (by decide +kernel) rfl ?_
      refine g_getr f_Md_124 (by decide +kernel) (by omega) rfl rfl ?_
      refine g_iload_n (i := 3) (by decide +kernel) rfl ?_
      refine g_zald (j := i) (by decide +kernel) (by omega) rfl (by omega) (by omega) (by decide) ?_
      refine g_if_eq (off := 7) (tgt := 54) (by decide +kernel) (by decide) ⟨by rw [q]; split <;> decide, by rw [q]; split <;> decide⟩ (fun h47 => ?_) (fun h47 => ?_)
      · refine g_iconst (a := 0) (by decide +kernel) ?_
        refine g_iadd (by decide +kernel) ?_
        refine g_istore_n (i := 2) (L' := [(0, _), (1, _), (2, _), (3, _)]) (by decide +kernel) rfl rfl ?_
        refine g_iinc (i := 3) (b := 1) (L' := [(0, _), (1, _), (2, _), (3, _)]) (by decide +kernel) rfl rfl rfl ?_
        refine g_goto (off := -27) (tgt := 33) (by decide +kernel) (by decide) ?_
        by_cases z : zv S (i : Int) 1 k = 2
        · rw [if_pos z] at q
          exact ih (i + 1) _ _ (by push_cast; rfl) (by rw [zcnt_t (decide_eq_true ⟨z, z⟩)]; push_cast; omega) (by omega) (by omega)
        · rw [if_neg z] at q
          exact ih (i + 1) _ _ (by push_cast; rfl) (by rw [zcnt_f (decide_eq_false (fun y => z y.1))]; omega) (by omega) (by omega)
      · refine g_iconst (a := 1) (by decide +kernel) ?_
        refine g_goto (off := 4) (tgt := 55) (by decide +kernel) (by decide) ?_
        refine g_iadd (by decide +kernel) ?_
        refine g_istore_n (i := 2) (L' := [(0, _), (1, _), (2, _), (3, _)]) (by decide +kernel) rfl rfl ?_
        refine g_iinc (i := 3) (b := 1) (L' := [(0, _), (1, _), (2, _), (3, _)]) (by decide +kernel) rfl rfl rfl ?_
        refine g_goto (off := -27) (tgt := 33) (by decide +kernel) (by decide) ?_
        by_cases z : zv S (i : Int) 1 k = 2
        · rw [if_pos z] at q
          exact ih (i + 1) _ _ (by push_cast; rfl) (by rw [zcnt_t (decide_eq_true ⟨z, z⟩)]; push_cast; omega) (by omega) (by omega)
        · rw [if_neg z] at q
          exact ih (i + 1) _ _ (by push_cast; rfl) (by rw [zcnt_f (decide_eq_false (fun y => z y.1))]; omega) (by omega) (by omega)
theorem c_Md_ticks {G : zG} {n : Nat} {σ : zSt} {S : zSt} (hn : 220 ≤ n) (hM : zMz S) (hS : zMc σ S) {c : Int} (z1 : zr c) : Gm G y_Md_ticks m_Md_ticks 19 0 0 [vr G 189, vi c] n SH σ (zI n SH (fun a σ' => zRM σ σ' a (if 0 ≤ c ∧ c < S 0 0 then 0 else 2) (zcnt (fun s => decide (zv S (s : Int) 1 c.toNat = 2 ∧ zv S (s : Int) 1 c.toNat = 2)) 2000 : Int))) := by
  refine g_enter (L := [(0, _), (1, _)]) (by decide) rfl rfl rfl (Nat.le_of_ble_eq_true rfl) (fun X => ?_)
  have e0 := hS.n
  have e8 := hS.p
  have hN := hS.N
  have hz : zN S = (S 0 0).toNat := rfl
  obtain ⟨z1a, z1b⟩ := id z1
  refine g_aload_n (i := 0) (by decide +kernel) rfl ?_
  refine g_iconst (a := 0) (by decide +kernel) ?_
  refine g_puti f_Md_142 (by decide +kernel) (by omega) rfl rfl ?_
  refine g_aload_n (i := 0) (by decide +kernel) rfl ?_
  refine g_iconst (a := 0) (by decide +kernel) ?_
  refine g_puti f_Md_145 (by decide +kernel) (by omega) rfl rfl ?_
  obtain ⟨τ, eτ⟩ : ∃ τ, τ = zs (zs σ 189 3 0) 189 2 0 := ⟨_, rfl⟩
  rw [← eτ]
  have f0 : zMF σ τ := by rw [eτ]; exact ((zMF.rf σ).put (by decide)).put (by decide)
  have s0 : τ 189 2 = 0 := by rw [eτ, zs_eq]
  have hT : zMc τ S := hS.moved (f0.1 190 (by decide))
  have et := hT.n
  have ep := hT.p
  refine g_aload_n (i := 0) (by decide +kernel) rfl ?_
  refine g_iload_n (i := 1) (by decide +kernel) rfl ?_
  refine g_cVI (st := _) (c_Md_isClip (k := c) hn (by assumption) (by rw [hT.n]; omega)) k_Md_isClip l_Md_313 (by decide +kernel) (by omega) rfl rfl rfl rfl (Nat.le_of_ble_eq_true rfl) (by decide) ⟨by decide, by decide⟩ ?_
  rintro a9 σ9 ⟨ea9, hσ9⟩
  obtain rfl := hσ9.symm
  rw [hT.n] at ea9
  subst ea9
  refine g_if_ne (off := 9) (tgt := 24) (by decide +kernel) (by decide) zbr (fun h15 => ?_) (fun h15 => ?_)
  · have h15 := zb1.mp h15
    obtain ⟨k, rfl⟩ := Int.eq_ofNat_of_zero_le h15.1
    have kN : k < zN S := by omega
    refine g_aload_n (i := 0) (by decide +kernel) rfl ?_
    refine g_iload_n (i := 1) (by decide +kernel) rfl ?_
    refine g_cVV (st := _) (c_Md_laysTimes (k := k) hn hM hT kN) k_Md_laysTimes l_Md_436 (by decide +kernel) (by omega) rfl rfl rfl rfl (Nat.le_of_ble_eq_true rfl) (by decide) ⟨by decide, by decide⟩ ?_
    rintro υ ⟨hf, hP, hq⟩
    have f1 := f0.of (fun a ha => hf a (by omega))
    have s1 : υ 189 2 = 0 := by rw [hf 189 (by omega)]; exact s0
    refine g_iconst (a := 0) (by decide +kernel) ?_
    refine g_istore_n (i := 2) (L' := [(0, _), (1, _), (2, _)]) (by decide +kernel) rfl rfl ?_
    refine g_iconst (a := 0) (by decide +kernel) ?_
    refine g_istore_n (i := 3) (L' := [(0, _), (1, _), (2, _), (3, _)]) (by decide +kernel) rfl rfl ?_
    refine w_Md_ticks (σ := σ) hn hM hq kN ?_ 2001 0 _ _ rfl rfl (by omega) (by omega)
    refine g_retI (by decide +kernel) rfl (Or.inl rfl) ⟨by decide, by decide⟩ ?_
    exact zRM.ok f1 (if_pos (by omega)) s1 (by rw [Int.toNat_natCast])
  · have h15 := zb0.mp h15
    refine g_aload_n (i := 0) (by decide +kernel) rfl ?_
    refine g_iconst (a := 2) (by decide +kernel) ?_
    refine g_cVI (st := _) (c_Md_refuse hn) k_Md_refuse l_Md_295 (by decide +kernel) (by omega) rfl rfl rfl rfl (Nat.le_of_ble_eq_true rfl) (by decide) ⟨by decide, by decide⟩ ?_
    rintro a9 σ9 ⟨ea9, hσ9⟩
    obtain rfl := ea9.symm
    subst hσ9
    refine g_retI (by decide +kernel) rfl (Or.inl rfl) ⟨by decide, by decide⟩ ?_
    exact zRM.ref f0 (if_neg (by omega)) (by decide)
theorem w_Md_both {G : zG} {X : zX} {n : Nat} {σ : zSt} {S : zSt} {k l : Nat} (hn : 220 ≤ n) (hM : zMz S) (kN : k < zN S) (lN : l < zN S)  : ∀ (m : Nat) (i : Nat) (x3 x4 : Int) (τ : zSt), x4 = (i : Int) → x3 = (zcnt (fun s => decide (zv S (s : Int) 1 k = 2 ∧ zv S (s : Int) 1 l = 2)) i : Int) → zMF σ τ → τ 189 2 = 0 → zPd τ S → i ≤ 2000 → 2000 < i + m → Go G X m_Md_both (18, 0, 0, 0, 0) n SH τ 41 [(0, vr G 189), (1, vi (k : Int)), (2, vi (l : Int)), (3, vi x3), (4, vi x4)] [] (zI n SH (fun a σ' => zRM σ σ' a 0 (zcnt (fun s => decide (zv S (s : Int) 1 k = 2 ∧ zv S (s : Int) 1 l = 2)) 2000 : Int))) := by
  intro m
  induction m with
  | zero => intro i x3 x4 τ e4 e3 f1 s1 hP hi hm; exact absurd hm (by omega)
  | succ m ih =>
    intro i x3 x4 τ e4 e3 f1 s1 hP hi hm
    have hN := hP.2.1.N
    have hz : zN S = (S 0 0).toNat := rfl
    subst e4
    have zl := zcnt_le (fun s => decide (zv S (s : Int) 1 k = 2 ∧ zv S (s : Int) 1 l = 2)) i
    refine g_iload (i := 4) (by decide +kernel) rfl ?_
    refine g_sipush (a := 1999) (by decide +kernel) (by decide) ?_
    refine g_icmp_gt (off := 41) (tgt := 87) (by decide +kernel) (by decide) ⟨by omega, by omega⟩ ⟨by omega, by omega⟩ (fun h46 => ?_) (fun h46 => ?_)
    · refine g_iload_n (i := 3) (by decide +kernel) rfl ?_
      refine g_retI (by decide +kernel) rfl (Or.inl rfl) ⟨by decide, by decide⟩ ?_
      exact zRM.ok f1 rfl s1 (by rw [e3, show i = 2000 by omega])
    · refine g_aload_n (i := 0) (by decide +kernel) rfl ?_
      refine g_bipush (a := 6) (by decide +kernel) (by decide) ?_
      refine g_iload (i := 4) (by decide +kernel) rfl ?_
      refine g_cVV (st := _) (c_Md_laysSlot (s := 6) (t := (i : Int)) hn (hP.x (by decide) _) (fun i hi _ => by omega) ⟨by omega, by omega⟩) k_Md_laysSlot l_Md_372 (by decide +kernel) (by omega) rfl rfl rfl rfl (Nat.le_of_ble_eq_true rfl) (by decide) ⟨by decide, by decide⟩ ?_
      rintro ω ⟨hr6, h6⟩
      have f2 := f1.of (fun a ha => hr6.1 a (by omega))
      have s2 : ω 189 2 = 0 := by rw [hr6.1 189 (by omega)]; exact s1
      have hP2 := hP.slot (by decide) hr6
      have k6 := (zS6 h6 kN).1
      have l6 := (zS6 h6 lN).1
      have sk := zv_st (t := (i : Int)) hM kN
      have sl := zv_st (t := (i : Int)) hM lN
      refine g_iload_n (i := 3) (by decide +kernel) rfl ?_
      refine g_aload_n (i := 0) (by decide +kernel) rfl ?_
      refine g_iload_n (i := 1) (by decide +kernel) rfl ?_
      refine g_cVI (st := _) (c_Md_plays (k := k) hn (by omega) ⟨by omega, by omega⟩) k_Md_plays l_Md_421 (by decide +kernel) (by omega) rfl rfl rfl rfl (Nat.le_of_ble_eq_true rfl) (by decide) ⟨by decide, by decide⟩ ?_
      rintro a9 σ9 ⟨ea9, hσ9⟩
      obtain rfl := hσ9.symm
      rw [k6] at ea9
      subst ea9
      refine g_if_eq (off := 15) (tgt := 78) (by decide +kernel) (by decide) zbr (fun h63 => ?_) (fun h63 => ?_)
      · have h63 := zb0.mp h63
        refine g_iconst (a := 0) (by decide +kernel) ?_
        refine g_iadd (by decide +kernel) ?_
        refine g_istore_n (i := 3) (L' := [(0, _), (1, _), (2, _), (3, _), (4, _)]) (by decide +kernel) rfl rfl ?_
        refine g_iinc (i := 4) (b := 1) (L' := [(0, _), (1, _), (2, _), (3, _), (4, _)]) (by decide +kernel) rfl rfl rfl ?_
        refine g_goto (off := -43) (tgt := 41) (by decide +kernel) (by decide) ?_
        by_cases z : zv S (i : Int) 1 k = 2 ∧ zv S (i : Int) 1 l = 2
        · exact ih (i + 1) _ _ ω (by push_cast; rfl) (by rw [zcnt_t (decide_eq_true z)]; push_cast; omega) f2 s2 hP2 (by omega) (by omega)
        · exact ih (i + 1) _ _ ω (by push_cast; rfl) (by rw [zcnt_f (decide_eq_false z)]; omega) f2 s2 hP2 (by omega) (by omega)
      · have h63 := zb1.mp h63
        refine g_aload_n (i := 0) (by decide +kernel) rfl ?_
        refine g_iload_n (i := 2) (by decide +kernel) rfl ?_
        refine g_cVI (st := _) (c_Md_plays (k := l) hn (by omega) ⟨by omega, by omega⟩) k_Md_plays l_Md_421 (by decide +kernel) (by omega) rfl rfl rfl rfl (Nat.le_of_ble_eq_true rfl) (by decide) ⟨by decide, by decide⟩ ?_
        rintro a9 σ9 ⟨ea9, hσ9⟩
        obtain rfl := hσ9.symm
        rw [l6] at ea9
        subst ea9
        refine g_if_eq (off := 7) (tgt := 78) (by decide +kernel) (by decide) zbr (fun h71 => ?_) (fun h71 => ?_)
        · have h71 := zb0.mp h71
          refine g_iconst (a := 0) (by decide +kernel) ?_
          refine g_iadd (by decide +kernel) ?_
          refine g_istore_n (i := 3) (L' := [(0, _), (1, _), (2, _), (3, _), (4, _)]) (by decide +kernel) rfl rfl ?_
          refine g_iinc (i := 4) (b := 1) (L' := [(0, _), (1, _), (2, _), (3, _), (4, _)]) (by decide +kernel) rfl rfl rfl ?_
          refine g_goto (off := -43) (tgt := 41) (by decide +kernel) (by decide) ?_
          by_cases z : zv S (i : Int) 1 k = 2 ∧ zv S (i : Int) 1 l = 2
          · exact ih (i + 1) _ _ ω (by push_cast; rfl) (by rw [zcnt_t (decide_eq_true z)]; push_cast; omega) f2 s2 hP2 (by omega) (by omega)
          · exact ih (i + 1) _ _ ω (by push_cast; rfl) (by rw [zcnt_f (decide_eq_false z)]; omega) f2 s2 hP2 (by omega) (by omega)
        · have h71 := zb1.mp h71
          refine g_iconst (a := 1) (by decide +kernel) ?_
          refine g_goto (off := 4) (tgt := 79) (by decide +kernel) (by decide) ?_
          refine g_iadd (by decide +kernel) ?_
          refine g_istore_n (i := 3) (L' := [(0, _), (1, _), (2, _), (3, _), (4, _)]) (by decide +kernel) rfl rfl ?_
          refine g_iinc (i := 4) (b := 1) (L' := [(0, _), (1, _), (2, _), (3, _), (4, _)]) (by decide +kernel) rfl rfl rfl ?_
          refine g_goto (off := -43) (tgt := 41) (by decide +kernel) (by decide) ?_
          by_cases z : zv S (i : Int) 1 k = 2 ∧ zv S (i : Int) 1 l = 2
          · exact ih (i + 1) _ _ ω (by push_cast; rfl) (by rw [zcnt_t (decide_eq_true z)]; push_cast; omega) f2 s2 hP2 (by omega) (by omega)
          · exact ih (i + 1) _ _ ω (by push_cast; rfl) (by rw [zcnt_f (decide_eq_false z)]; omega) f2 s2 hP2 (by omega) (by omega)
theorem c_Md_both {G : zG} {n : Nat} {σ : zSt} {S : zSt} (hn : 220 ≤ n) (hM : zMz S) (hS : zMc σ S) {c d : Int} (z1 : zr c) (z2 : zr d) : Gm G y_Md_both m_Md_both 18 0 0 [vr G 189, vi c, vi d] n SH σ (zI n SH (fun a σ' => zRM σ σ' a (if (0 ≤ c ∧ c < S 0 0) ∧ (0 ≤ d ∧ d < S 0 0) then 0 else 2) (zcnt (fun s => decide (zv S (s : Int) 1 c.toNat = 2 ∧ zv S (s : Int) 1 d.toNat = 2)) 2000 : Int))) := by
  refine g_enter (L := [(0, _), (1, _), (2, _)]) (by decide) rfl rfl rfl (Nat.le_of_ble_eq_true rfl) (fun X => ?_)
  have e0 := hS.n
  have e8 := hS.p
  have hN := hS.N
  have hz : zN S = (S 0 0).toNat := rfl
  obtain ⟨z1a, z1b⟩ := id z1
  obtain ⟨z2a, z2b⟩ := id z2
  refine g_aload_n (i := 0) (by decide +kernel) rfl ?_
  refine g_iconst (a := 0) (by decide +kernel) ?_
  refine g_puti f_Md_142 (by decide +kernel) (by omega) rfl rfl ?_
  refine g_aload_n (i := 0) (by decide +kernel) rfl ?_
  refine g_iconst (a := 0) (by decide +kernel) ?_
  refine g_puti f_Md_145 (by decide +kernel) (by omega) rfl rfl ?_
  obtain ⟨τ, eτ⟩ : ∃ τ, τ = zs (zs σ 189 3 0) 189 2 0 := ⟨_, rfl⟩
  rw [← eτ]
  have f0 : zMF σ τ := by rw [eτ]; exact ((zMF.rf σ).put (by decide)).put (by decide)
  have s0 : τ 189 2 = 0 := by rw [eτ, zs_eq]
  have hT : zMc τ S := hS.moved (f0.1 190 (by decide))
  have et := hT.n
  have ep := hT.p
  refine g_aload_n (i := 0) (by decide +kernel) rfl ?_
  refine g_iload_n (i := 1) (by decide +kernel) rfl ?_
  refine g_cVI (st := _) (c_Md_isClip (k := c) hn (by assumption) (by rw [hT.n]; omega)) k_Md_isClip l_Md_313 (by decide +kernel) (by omega) rfl rfl rfl rfl (Nat.le_of_ble_eq_true rfl) (by decide) ⟨by decide, by decide⟩ ?_
  rintro a9 σ9 ⟨ea9, hσ9⟩
  obtain rfl := hσ9.symm
  rw [hT.n] at ea9
  subst ea9
  refine g_if_eq (off := 11) (tgt := 26) (by decide +kernel) (by decide) zbr (fun h15 => ?_) (fun h15 => ?_)
  · have h15 := zb0.mp h15
    refine g_aload_n (i := 0) (by decide +kernel) rfl ?_
    refine g_iconst (a := 2) (by decide +kernel) ?_
    refine g_cVI (st := _) (c_Md_refuse hn) k_Md_refuse l_Md_295 (by decide +kernel) (by omega) rfl rfl rfl rfl (Nat.le_of_ble_eq_true rfl) (by decide) ⟨by decide, by decide⟩ ?_
    rintro a9 σ9 ⟨ea9, hσ9⟩
    obtain rfl := ea9.symm
    subst hσ9
    refine g_retI (by decide +kernel) rfl (Or.inl rfl) ⟨by decide, by decide⟩ ?_
    exact zRM.ref f0 (if_neg (by omega)) (by decide)
  · have h15 := zb1.mp h15
    refine g_aload_n (i := 0) (by decide +kernel) rfl ?_
    refine g_iload_n (i := 2) (by decide +kernel) rfl ?_
    refine g_cVI (st := _) (c_Md_isClip (k := d) hn (by assumption) (by rw [hT.n]; omega)) k_Md_isClip l_Md_313 (by decide +kernel) (by omega) rfl rfl rfl rfl (Nat.le_of_ble_eq_true rfl) (by decide) ⟨by decide, by decide⟩ ?_
    rintro a9 σ9 ⟨ea9, hσ9⟩
    obtain rfl := hσ9.symm
    rw [hT.n] at ea9
    subst ea9
    refine g_if_ne (off := 9) (tgt := 32) (by decide +kernel) (by decide) zbr (fun h23 => ?_) (fun h23 => ?_)
    · have h23 := zb1.mp h23
      refine g_aload_n (i := 0) (by decide +kernel) rfl ?_
      refine g_cVV (st := _) (c_Md_laysPresses hn hM hT) k_Md_laysPresses l_Md_375 (by decide +kernel) (by omega) rfl rfl rfl rfl (Nat.le_of_ble_eq_true rfl) (by decide) ⟨by decide, by decide⟩ ?_
      rintro υ ⟨hf, hP⟩
      have f1 := f0.of (fun a ha => hf a (by omega))
      have s1 : υ 189 2 = 0 := by rw [hf 189 (by omega)]; exact s0
      refine g_iconst (a := 0) (by decide +kernel) ?_
      refine g_istore_n (i := 3) (L' := [(0, _), (1, _), (2, _), (3, _)]) (by decide +kernel) rfl rfl ?_
      refine g_iconst (a := 0) (by decide +kernel) ?_
      refine g_istore (i := 4) (L' := [(0, _), (1, _), (2, _), (3, _), (4, _)]) (by decide +kernel) rfl rfl ?_
      obtain ⟨k, rfl⟩ := Int.eq_ofNat_of_zero_le h15.1
      obtain ⟨l, rfl⟩ := Int.eq_ofNat_of_zero_le h23.1
      have e9 : (if (0 ≤ (k : Int) ∧ (k : Int) < S 0 0) ∧ (0 ≤ (l : Int) ∧ (l : Int) < S 0 0) then (0 : Int) else 2) = 0 := if_pos ⟨h15, h23⟩
      rw [e9, Int.toNat_natCast, Int.toNat_natCast]
      exact w_Md_both hn hM (by omega) (by omega) 2001 0 _ _ υ rfl rfl f1 s1 hP (by omega) (by omega)
    · have h23 := zb0.mp h23
      refine g_aload_n (i := 0) (by decide +kernel) rfl ?_
      refine g_iconst (a := 2) (by decide +kernel) ?_
      refine g_cVI (st := _) (c_Md_refuse hn) k_Md_refuse l_Md_295 (by decide +kernel) (by omega) rfl rfl rfl rfl (Nat.le_of_ble_eq_true rfl) (by decide) ⟨by decide, by decide⟩ ?_
      rintro a9 σ9 ⟨ea9, hσ9⟩
      obtain rfl := ea9.symm
      subst hσ9
      refine g_retI (by decide +kernel) rfl (Or.inl rfl) ⟨by decide, by decide⟩ ?_
      exact zRM.ref f0 (if_neg (by omega)) (by decide)
theorem w_Md_when {G : zG} {X : zX} {n : Nat} {σ : zSt} {S υ : zSt} {k : Nat} {w i : Int} (hn : 220 ≤ n) (hM : zMz S) (hq : zTm υ S k 2000) (kN : k < zN S) (f1 : zMF σ υ) (s1 : υ 189 2 = 0) (hw : 0 ≤ w ∧ w ≤ 2147483647) (hi0 : 0 ≤ i ∧ i ≤ 2147483647)  : ∀ (m : Nat) (t f : Nat) (x4 x5 : Int), x5 = (t : Int) → zwn (fun s => decide (zplay S k s = w)) 2000 0 i = zwn (fun s => decide (zplay S k s = w)) f t x4 → (0 ≤ x4 ∧ x4 ≤ 2147483647) → t + f = 2000 → f < m → Go G X m_Md_when (19, 0, 0, 0, 0) n SH υ 49 [(0, vr G 189), (1, vi (k : Int)), (2, vi w), (3, vi i), (4, vi x4), (5, vi x5)] [] (zI n SH (fun a σ' => zRM σ σ' a (if zwn (fun s => decide (zplay S k s = w)) 2000 0 i = -1 then 8 else 0) (zwn (fun s => decide (zplay S k s = w)) 2000 0 i))) := by
  intro m
  induction m with
  | zero => intro t f x4 x5 e5 eF h4 htf hm; exact absurd hm (by omega)
  | succ m ih =>
    intro t f x4 x5 e5 eF h4 htf hm
    subst e5
    refine g_iload (i := 5) (by decide +kernel) rfl ?_
    refine g_sipush (a := 1999) (by decide +kernel) (by decide) ?_
    refine g_icmp_gt (off := 46) (tgt := 100) (by decide +kernel) (by decide) ⟨by omega, by omega⟩ ⟨by omega, by omega⟩ (fun h54 => ?_) (fun h54 => ?_)
    · refine g_aload_n (i := 0) (by decide +kernel) rfl ?_
      refine g_bipush (a := 8) (by decide +kernel) (by decide) ?_
      refine g_cVI (st := _) (c_Md_refuse hn) k_Md_refuse l_Md_295 (by decide +kernel) (by omega) rfl rfl rfl rfl (Nat.le_of_ble_eq_true rfl) (by decide) ⟨by decide, by decide⟩ ?_
      rintro a9 σ9 ⟨ea9, hσ9⟩
      obtain rfl := ea9.symm
      subst hσ9
      refine g_retI (by decide +kernel) rfl (Or.inl rfl) ⟨by decide, by decide⟩ ?_
      have z0 : f = 0 := by omega
      subst z0
      have eF : zwn (fun s => decide (zplay S k s = w)) 2000 0 i = -1 := eF
      exact zRM.ref f1 (if_pos eF) (by decide)
    · obtain ⟨f, rfl⟩ : ∃ g, f = g + 1 := ⟨f - 1, by omega⟩
      have es := zwn_s (fun s => decide (zplay S k s = w)) f t x4
      rw [es] at eF
      have q := hq t (by omega)
      have rl := zv_rg (t := (t : Int)) hM kN
      have pl : zplay S k t = (if zv S (t : Int) 1 k = 2 then zv S (t : Int) 2 k else -1) := rfl
      refine g_aload_n (i := 0) (by decide +kernel) rfl ?_
      refine g_getr f_Md_124 (by decide +kernel) (by omega) rfl rfl ?_
      refine g_iload (i := 5) (by decide +kernel) rfl ?_
      refine g_zald (j := t) (by decide +kernel) (by omega) rfl (by omega) (by omega) (by decide) ?_
      refine g_if_eq (off := 30) (tgt := 94) (by decide +kernel) (by decide) ⟨by rw [q.1]; split <;> decide, by rw [q.1]; split <;> decide⟩ (fun h64 => ?_) (fun h64 => ?_)
      · refine g_iinc (i := 5) (b := 1) (L' := [(0, _), (1, _), (2, _), (3, _), (4, _), (5, _)]) (by decide +kernel) rfl rfl rfl ?_
        refine g_goto (off := -48) (tgt := 49) (by decide +kernel) (by decide) ?_
        by_cases z : zv S (t : Int) 1 k = 2
        · rw [if_pos z] at q pl
          first
            | (have hz0 : ¬ x4 = 0 := h85
               rw [if_pos (decide_eq_true (by omega)), if_neg hz0] at eF
               exact ih (t + 1) f _ _ (by push_cast; rfl) eF (by omega) (by omega) (by omega))
            | (rw [if_neg (by rw [decide_eq_true_iff]; omega)] at eF
               exact ih (t + 1) f _ _ (by push_cast; rfl) eF h4 (by omega) (by omega))
        · rw [if_neg z] at q pl
          first
            | (rw [if_neg (by rw [decide_eq_true_iff]; omega)] at eF
               exact ih (t + 1) f _ _ (by push_cast; rfl) eF h4 (by omega) (by omega))
            | omega
      · refine g_aload_n (i := 0) (by decide +kernel) rfl ?_
        refine g_getr f_Md_127 (by decide +kernel) (by omega) rfl rfl ?_
        refine g_iload (i := 5) (by decide +kernel) rfl ?_
        refine g_lald (j := t) (by decide +kernel) (by omega) rfl (by omega) (by omega) (by decide) ?_
        refine g_iload_n (i := 2) (by decide +kernel) rfl ?_
        refine g_i2l (by decide +kernel) ⟨by omega, by omega⟩ ?_
        refine g_lcmp (by decide +kernel) ⟨by omega, by omega⟩ ⟨by omega, by omega⟩ ?_
        refine g_if_eq (off := 6) (tgt := 83) (by decide +kernel) (by decide) zcmp_r (fun h77 => ?_) (fun h77 => ?_)
        · have h77 := zcmp_eq.mp h77
          refine g_iload (i := 4) (by decide +kernel) rfl ?_
          refine g_if_ne (off := 6) (tgt := 91) (by decide +kernel) (by decide) ⟨by omega, by omega⟩ (fun h85 => ?_) (fun h85 => ?_)
          · refine g_iinc (i := 4) (b := -1) (L' := [(0, _), (1, _), (2, _), (3, _), (4, _), (5, _)]) (by decide +kernel) rfl rfl rfl ?_
            refine g_iinc (i := 5) (b := 1) (L' := [(0, _), (1, _), (2, _), (3, _), (4, _), (5, _)]) (by decide +kernel) rfl rfl rfl ?_
            refine g_goto (off := -48) (tgt := 49) (by decide +kernel) (by decide) ?_
            by_cases z : zv S (t : Int) 1 k = 2
            · rw [if_pos z] at q pl
              first
                | (have hz0 : ¬ x4 = 0 := h85
                   rw [if_pos (decide_eq_true (by omega)), if_neg hz0] at eF
                   exact ih (t + 1) f _ _ (by push_cast; rfl) eF (by omega) (by omega) (by omega))
                | (rw [if_neg (by rw [decide_eq_true_iff]; omega)] at eF
                   exact ih (t + 1) f _ _ (by push_cast; rfl) eF h4 (by omega) (by omega))
            · rw [if_neg z] at q pl
              first
                | (rw [if_neg (by rw [decide_eq_true_iff]; omega)] at eF
                   exact ih (t + 1) f _ _ (by push_cast; rfl) eF h4 (by omega) (by omega))
                | omega
          · refine g_iload (i := 5) (by decide +kernel) rfl ?_
            refine g_retI (by decide +kernel) rfl (Or.inl rfl) ⟨by decide, by decide⟩ ?_
            by_cases z : zv S (t : Int) 1 k = 2
            · rw [if_pos z] at q pl
              rw [if_pos (decide_eq_true (by omega)), if_pos (by omega)] at eF
              exact zRM.ok f1 (if_neg (by omega)) s1 eF.symm
            · rw [if_neg z] at q
              omega
        · have h77 := zcmp_ne.mp h77
          refine g_goto (off := 14) (tgt := 94) (by decide +kernel) (by decide) ?_
          refine g_iinc (i := 5) (b := 1) (L' := [(0, _), (1, _), (2, _), (3, _), (4, _), (5, _)]) (by decide +kernel) rfl rfl rfl ?_
          refine g_goto (off := -48) (tgt := 49) (by decide +kernel) (by decide) ?_
          by_cases z : zv S (t : Int) 1 k = 2
          · rw [if_pos z] at q pl
            first
              | (have hz0 : ¬ x4 = 0 := h85
                 rw [if_pos (decide_eq_true (by omega)), if_neg hz0] at eF
                 exact ih (t + 1) f _ _ (by push_cast; rfl) eF (by omega) (by omega) (by omega))
              | (rw [if_neg (by rw [decide_eq_true_iff]; omega)] at eF
                 exact ih (t + 1) f _ _ (by push_cast; rfl) eF h4 (by omega) (by omega))
          · rw [if_neg z] at q pl
            first
              | (rw [if_neg (by rw [decide_eq_true_iff]; omega)] at eF
                 exact ih (t + 1) f _ _ (by push_cast; rfl) eF h4 (by omega) (by omega))
              | omega
theorem c_Md_when {G : zG} {n : Nat} {σ : zSt} {S : zSt} (hn : 220 ≤ n) (hM : zMz S) (hS : zMc σ S) {c w i : Int} (z1 : zr c) (z2 : zr w) (z3 : zr i) : Gm G y_Md_when m_Md_when 19 0 0 [vr G 189, vi c, vi w, vi i] n SH σ (zI n SH (fun a σ' => zRM σ σ' a (if w < 0 ∨ i < 0 then 1 else if ¬ (0 ≤ c ∧ c < S 0 0) then 2 else if zwn (fun s => decide (zplay S c.toNat s = w)) 2000 0 i = -1 then 8 else 0) (zwn (fun s => decide (zplay S c.toNat s = w)) 2000 0 i))) := by
  refine g_enter (L := [(0, _), (1, _), (2, _), (3, _)]) (by decide) rfl rfl rfl (Nat.le_of_ble_eq_true rfl) (fun X => ?_)
  have e0 := hS.n
  have e8 := hS.p
  have hN := hS.N
  have hz : zN S = (S 0 0).toNat := rfl
  obtain ⟨z1a, z1b⟩ := id z1
  obtain ⟨z2a, z2b⟩ := id z2
  obtain ⟨z3a, z3b⟩ := id z3
  refine g_aload_n (i := 0) (by decide +kernel) rfl ?_
  refine g_iconst (a := 0) (by decide +kernel) ?_
  refine g_puti f_Md_142 (by decide +kernel) (by omega) rfl rfl ?_
  refine g_aload_n (i := 0) (by decide +kernel) rfl ?_
  refine g_iconst (a := 0) (by decide +kernel) ?_
  refine g_puti f_Md_145 (by decide +kernel) (by omega) rfl rfl ?_
  obtain ⟨τ, eτ⟩ : ∃ τ, τ = zs (zs σ 189 3 0) 189 2 0 := ⟨_, rfl⟩
  rw [← eτ]
  have f0 : zMF σ τ := by rw [eτ]; exact ((zMF.rf σ).put (by decide)).put (by decide)
  have s0 : τ 189 2 = 0 := by rw [eτ, zs_eq]
  have hT : zMc τ S := hS.moved (f0.1 190 (by decide))
  have et := hT.n
  have ep := hT.p
  refine g_iload_n (i := 2) (by decide +kernel) rfl ?_
  refine g_if_lt (off := 7) (tgt := 18) (by decide +kernel) (by decide) ⟨by omega, by omega⟩ (fun h11 => ?_) (fun h11 => ?_)
  · refine g_aload_n (i := 0) (by decide +kernel) rfl ?_
    refine g_iconst (a := 1) (by decide +kernel) ?_
    refine g_cVI (st := _) (c_Md_refuse hn) k_Md_refuse l_Md_295 (by decide +kernel) (by omega) rfl rfl rfl rfl (Nat.le_of_ble_eq_true rfl) (by decide) ⟨by decide, by decide⟩ ?_
    rintro a9 σ9 ⟨ea9, hσ9⟩
    obtain rfl := ea9.symm
    subst hσ9
    refine g_retI (by decide +kernel) rfl (Or.inl rfl) ⟨by decide, by decide⟩ ?_
    exact zRM.ref f0 (if_pos (by omega)) (by decide)
  · refine g_iload_n (i := 3) (by decide +kernel) rfl ?_
    refine g_if_ge (off := 9) (tgt := 24) (by decide +kernel) (by decide) ⟨by omega, by omega⟩ (fun h15 => ?_) (fun h15 => ?_)
    · refine g_aload_n (i := 0) (by decide +kernel) rfl ?_
      refine g_iload_n (i := 1) (by decide +kernel) rfl ?_
      refine g_cVI (st := _) (c_Md_isClip (k := c) hn (by assumption) (by rw [hT.n]; omega)) k_Md_isClip l_Md_313 (by decide +kernel) (by omega) rfl rfl rfl rfl (Nat.le_of_ble_eq_true rfl) (by decide) ⟨by decide, by decide⟩ ?_
      rintro a9 σ9 ⟨ea9, hσ9⟩
      obtain rfl := hσ9.symm
      rw [hT.n] at ea9
      subst ea9
      refine g_if_ne (off := 9) (tgt := 38) (by decide +kernel) (by decide) zbr (fun h29 => ?_) (fun h29 => ?_)
      · have h29 := zb1.mp h29
        obtain ⟨k, rfl⟩ := Int.eq_ofNat_of_zero_le h29.1
        have kN : k < zN S := by omega
        refine g_aload_n (i := 0) (by decide +kernel) rfl ?_
        refine g_iload_n (i := 1) (by decide +kernel) rfl ?_
        refine g_cVV (st := _) (c_Md_laysTimes (k := k) hn hM hT kN) k_Md_laysTimes l_Md_436 (by decide +kernel) (by omega) rfl rfl rfl rfl (Nat.le_of_ble_eq_true rfl) (by decide) ⟨by decide, by decide⟩ ?_
        rintro υ ⟨hf, hP, hq⟩
        have f1 := f0.of (fun a ha => hf a (by omega))
        have s1 : υ 189 2 = 0 := by rw [hf 189 (by omega)]; exact s0
        refine g_iload_n (i := 3) (by decide +kernel) rfl ?_
        refine g_istore (i := 4) (L' := [(0, _), (1, _), (2, _), (3, _), (4, _)]) (by decide +kernel) rfl rfl ?_
        refine g_iconst (a := 0) (by decide +kernel) ?_
        refine g_istore (i := 5) (L' := [(0, _), (1, _), (2, _), (3, _), (4, _), (5, _)]) (by decide +kernel) rfl rfl ?_
        rw [if_neg (by omega), if_neg (by omega), Int.toNat_natCast]
        exact w_Md_when hn hM hq kN f1 s1 (by omega) (by omega) 2001 0 2000 _ _ rfl rfl (by omega) (by omega) (by omega)
      · have h29 := zb0.mp h29
        refine g_aload_n (i := 0) (by decide +kernel) rfl ?_
        refine g_iconst (a := 2) (by decide +kernel) ?_
        refine g_cVI (st := _) (c_Md_refuse hn) k_Md_refuse l_Md_295 (by decide +kernel) (by omega) rfl rfl rfl rfl (Nat.le_of_ble_eq_true rfl) (by decide) ⟨by decide, by decide⟩ ?_
        rintro a9 σ9 ⟨ea9, hσ9⟩
        obtain rfl := ea9.symm
        subst hσ9
        refine g_retI (by decide +kernel) rfl (Or.inl rfl) ⟨by decide, by decide⟩ ?_
        exact zRM.ref f0 (by rw [if_neg (by omega), if_pos (by omega)]) (by decide)
    · refine g_aload_n (i := 0) (by decide +kernel) rfl ?_
      refine g_iconst (a := 1) (by decide +kernel) ?_
      refine g_cVI (st := _) (c_Md_refuse hn) k_Md_refuse l_Md_295 (by decide +kernel) (by omega) rfl rfl rfl rfl (Nat.le_of_ble_eq_true rfl) (by decide) ⟨by decide, by decide⟩ ?_
      rintro a9 σ9 ⟨ea9, hσ9⟩
      obtain rfl := ea9.symm
      subst hσ9
      refine g_retI (by decide +kernel) rfl (Or.inl rfl) ⟨by decide, by decide⟩ ?_
      exact zRM.ref f0 (if_pos (by omega)) (by decide)
