/-! THE STAGE (33): the Show at 1, the layout at 21, the moment now at 34, those at the presses at 45 + 8 p, the presses' order in row 43, the leaves as they stand in row 44 -/
theorem mo_at : ∀ j : Nat, j < 6 → zMo SH (45 + 8 * j) := by
  intro j hj
  rcases (by omega : j = 0 ∨ j = 1 ∨ j = 2 ∨ j = 3 ∨ j = 4 ∨ j = 5) with rfl | rfl | rfl | rfl | rfl | rfl
  · exact mo_45
  · exact mo_53
  · exact mo_61
  · exact mo_69
  · exact mo_77
  · exact mo_85
/-- the numbers of a moment stay within bounds -/
def zMr (σ : zSt) (p : Nat) : Prop := zr (σ p 0) ∧ ∀ k, k < 12 → (0 ≤ σ (p + 1) k ∧ σ (p + 1) k ≤ 4) ∧ (-1 ≤ σ (p + 2) k ∧ σ (p + 2) k ≤ 1000000000) ∧ (-1 ≤ σ (p + 3) k ∧ σ (p + 3) k ≤ 1000000000) ∧ (-1 ≤ σ (p + 4) k ∧ σ (p + 4) k ≤ 2000000000) ∧ (0 ≤ σ (p + 5) k ∧ σ (p + 5) k ≤ 1000000000) ∧ (0 ≤ σ (p + 6) k ∧ σ (p + 6) k ≤ 100) ∧ (0 ≤ σ (p + 7) k ∧ σ (p + 7) k ≤ 100)
/-- whether the passes are the same from x on outwards -/
def zsame (ar pa pb : Nat → Int) : Nat → Int → Bool
  | 0, _ => true
  | f + 1, x => if x = -1 then true else if pa x.toNat = pb x.toNat then zsame ar pa pb f (ar x.toNat) else false
theorem zsame_s (ar pa pb : Nat → Int) (f : Nat) (x : Int) : zsame ar pa pb (f + 1) x = if x = -1 then true else if pa x.toNat = pb x.toNat then zsame ar pa pb f (ar x.toNat) else false := rfl
theorem w_Sg_samePasses {G : zG} {X : zX} {n : Nat} {σ : zSt} {p q : Nat} {x : Int} (hn : 189 ≤ n) (hP : zMo SH p) (hQ : zMo SH q) (hg : zGood σ 1) (rp : zMr σ p) (rq : zMr σ q) : ∀ (m : Nat) (i : Nat) (x4 x5 : Int), x5 = (i : Int) → (-1 ≤ x4 ∧ x4 ≤ 11) → zsame (σ 3) (σ (p + 3)) (σ (q + 3)) 12 x = zsame (σ 3) (σ (p + 3)) (σ (q + 3)) (12 - i) x4 → i ≤ 12 → 12 < i + m → Go G X m_Sg_samePasses (0, 0, 0, 0, 0) n SH σ 6 [(0, vr G 33), (1, vr G p), (2, vr G q), (3, vi x), (4, vi x4), (5, vi x5)] [] (zI n SH (fun a σ' => a = (if zsame (σ 3) (σ (p + 3)) (σ (q + 3)) 12 x = true then 1 else 0) ∧ σ' = σ)) := by
  intro m
  induction m with
  | zero => intro i x4 x5 e5 hx e1 hi hm; exact absurd hm (by omega)
  | succ m ih =>
    intro i x4 x5 e5 hx e1 hi hm
    have hp := hP.1
    have hq := hQ.1
    refine g_iload (i := 5) (by decide +kernel) rfl ?_
    refine g_bipush (a := 12) (by decide +kernel) (by decide) ?_
    refine g_icmp_ge (off := 46) (tgt := 56) (by decide +kernel) (by decide) ⟨by omega, by omega⟩ ⟨by omega, by omega⟩ (fun h10 => ?_) (fun h10 => ?_)
    · refine g_iconst (a := 1) (by decide +kernel) ?_
      refine g_retI (by decide +kernel) rfl (Or.inr ⟨rfl, by omega⟩) ⟨by decide, by decide⟩ ?_
      first
        | (have hz : x4 = -1 := h16
           exact ⟨by rw [e1]; rfl, rfl⟩)
        | exact ⟨by rw [e1, show 12 - i = 0 by omega]; rfl, rfl⟩
    · rw [show 12 - i = (12 - (i + 1)) + 1 by omega, zsame_s _ _ _ (12 - (i + 1))] at e1
      refine g_iload (i := 4) (by decide +kernel) rfl ?_
      refine g_iconst (a := -1) (by decide +kernel) ?_
      refine g_icmp_eq (off := 40) (tgt := 56) (by decide +kernel) (by decide) ⟨by omega, by omega⟩ ⟨by omega, by omega⟩ (fun h16 => ?_) (fun h16 => ?_)
      · rw [if_pos h16] at e1
        refine g_iconst (a := 1) (by decide +kernel) ?_
        refine g_retI (by decide +kernel) rfl (Or.inr ⟨rfl, by omega⟩) ⟨by decide, by decide⟩ ?_
        first
          | (have hz : x4 = -1 := h16
             exact ⟨by rw [e1]; rfl, rfl⟩)
          | exact ⟨by rw [e1, show 12 - i = 0 by omega]; rfl, rfl⟩
      · obtain ⟨j, rfl⟩ := Int.eq_ofNat_of_zero_le (show 0 ≤ x4 by omega)
        have h1 := rp.2 j (by omega)
        have h2 := rq.2 j (by omega)
        have h3 : -1 ≤ σ 3 j ∧ σ 3 j ≤ 11 := (hg.2.1 j (by omega)).2.1
        rw [if_neg (by omega), Int.toNat_natCast] at e1
        refine g_aload_n (i := 1) (by decide +kernel) rfl ?_
        refine g_getr f_Sg_154 (by decide +kernel) (by omega) hP.a0 rfl ?_
        refine g_iload (i := 4) (by decide +kernel) rfl ?_
        refine g_iald (j := j) (by decide +kernel) (by omega) hP.a3 rfl (by omega) (by decide) ?_
        refine g_aload_n (i := 2) (by decide +kernel) rfl ?_
        refine g_getr f_Sg_154 (by decide +kernel) (by omega) hQ.a0 rfl ?_
        refine g_iload (i := 4) (by decide +kernel) rfl ?_
        refine g_iald (j := j) (by decide +kernel) (by omega) hQ.a3 rfl (by omega) (by decide) ?_
        refine g_icmp_eq (off := 5) (tgt := 38) (by decide +kernel) (by decide) ⟨by omega, by omega⟩ ⟨by omega, by omega⟩ (fun h33 => ?_) (fun h33 => ?_)
        · rw [if_pos h33] at e1
          refine g_aload_n (i := 0) (by decide +kernel) rfl ?_
          refine g_getr f_Sg_29 (by decide +kernel) (by omega) rfl rfl ?_
          refine g_getr f_Sg_124 (by decide +kernel) (by omega) rfl rfl ?_
          refine g_iload (i := 4) (by decide +kernel) rfl ?_
          refine g_iald (j := j) (by decide +kernel) (by omega) rfl rfl (by omega) (by decide) ?_
          refine g_istore (i := 4) (L' := [(0, _), (1, _), (2, _), (3, _), (4, _), (5, _)]) (by decide +kernel) rfl rfl ?_
          refine g_iinc (i := 5) (b := 1) (L' := [(0, _), (1, _), (2, _), (3, _), (4, _), (5, _)]) (by decide +kernel) rfl rfl rfl ?_
          refine g_goto (off := -47) (tgt := 6) (by decide +kernel) (by decide) ?_
          exact ih (i + 1) _ _ (by omega) h3 e1 (by omega) (by omega)
        · rw [if_neg h33] at e1
          refine g_iconst (a := 0) (by decide +kernel) ?_
          refine g_retI (by decide +kernel) rfl (Or.inr ⟨rfl, by omega⟩) ⟨by decide, by decide⟩ ?_
          exact ⟨by rw [e1]; rfl, rfl⟩
theorem c_Sg_samePasses {G : zG} {n : Nat} {σ : zSt} {p q : Nat} {x : Int} (hn : 189 ≤ n) (hP : zMo SH p) (hQ : zMo SH q) (hg : zGood σ 1) (rp : zMr σ p) (rq : zMr σ q) (hx : -1 ≤ x ∧ x ≤ 11) : Gm G y_Sg_samePasses m_Sg_samePasses 0 0 0 [vr G 33, vr G p, vr G q, vi x] n SH σ (zI n SH (fun a σ' => a = (if zsame (σ 3) (σ (p + 3)) (σ (q + 3)) 12 x = true then 1 else 0) ∧ σ' = σ)) := by
  refine g_enter (L := [(0, _), (1, _), (2, _), (3, _)]) (by decide) rfl rfl rfl (Nat.le_of_ble_eq_true rfl) (fun X => ?_)
  refine g_iload_n (i := 3) (by decide +kernel) rfl ?_
  refine g_istore (i := 4) (L' := [(0, _), (1, _), (2, _), (3, _), (4, _)]) (by decide +kernel) rfl rfl ?_
  refine g_iconst (a := 0) (by decide +kernel) ?_
  refine g_istore (i := 5) (L' := [(0, _), (1, _), (2, _), (3, _), (4, _), (5, _)]) (by decide +kernel) rfl rfl ?_
  exact w_Sg_samePasses hn hP hQ hg rp rq 13 0 _ _ rfl hx rfl (by omega) (by omega)
/-- a clip runs: s since its begin -/
def zFR (σ : zSt) (p k : Nat) (s : Int) : zSt := zs (zs (zs σ (p + 3) k (s * σ 8 (9 * k + 1) / σ 22 k)) (p + 2) k (if σ 8 (9 * k + 4) = 1 then σ 22 k - 1 - s * σ 8 (9 * k + 1) % σ 22 k else s * σ 8 (9 * k + 1) % σ 22 k)) (p + 5) k s
theorem c_Sg_fillRunning {G : zG} {n : Nat} {σ : zSt} {p k : Nat} {s : Int} (hn : 189 ≤ n) (hP : zMo SH p) (hp2 : 27 ≤ p) (hk : k < 12) (hs : 0 ≤ s ∧ s ≤ 1000000000) (h1 : 1 ≤ σ 22 k ∧ σ 22 k ≤ 100000000) (h2 : 1 ≤ σ 8 (9 * k + 1) ∧ σ 8 (9 * k + 1) ≤ 4) (h4 : 0 ≤ σ 8 (9 * k + 4) ∧ σ 8 (9 * k + 4) ≤ 999) : Gm G y_Sg_fillRunning m_Sg_fillRunning 1 0 0 [vr G 33, vr G p, vi k, vi s] n SH σ (zV n SH (fun σ' => σ' = zFR σ p k s)) := by
  refine g_enter (L := [(0, _), (1, _), (2, _), (3, _)]) (by decide) rfl rfl rfl (Nat.le_of_ble_eq_true rfl) (fun X => ?_)
  have hp := hP.1
  have b1 : 0 ≤ s * σ 8 (9 * k + 1) := Int.mul_nonneg hs.1 (by omega)
  have b2 : s * σ 8 (9 * k + 1) ≤ 1000000000 * 4 := Int.mul_le_mul hs.2 h2.2 (by omega) (by omega)
  refine g_aload_n (i := 0) (by decide +kernel) rfl ?_
  refine g_getr f_Sg_33 (by decide +kernel) (by omega) rfl rfl ?_
  refine g_getr f_Sg_151 (by decide +kernel) (by omega) rfl rfl ?_
  refine g_iload_n (i := 2) (by decide +kernel) rfl ?_
  refine g_iald (j := k) (by decide +kernel) (by omega) rfl rfl (by omega) (by decide) ?_
  refine g_istore (i := 4) (L' := [(0, _), (1, _), (2, _), (3, _), (4, _)]) (by decide +kernel) rfl rfl ?_
  refine g_iload (i := 4) (by decide +kernel) rfl ?_
  refine g_if_gt (off := 4) (tgt := 17) (by decide +kernel) (by decide) ⟨by omega, by omega⟩ (fun h13 => ?_) (fun h13 => ?_)
  · refine g_iload_n (i := 3) (by decide +kernel) rfl ?_
    refine g_i2l (by decide +kernel) ⟨by omega, by omega⟩ ?_
    refine g_aload_n (i := 0) (by decide +kernel) rfl ?_
    refine g_getr f_Sg_29 (by decide +kernel) (by omega) rfl rfl ?_
    refine g_iload_n (i := 2) (by decide +kernel) rfl ?_
    refine g_iconst (a := 1) (by decide +kernel) ?_
    refine g_cVI (st := [vl s]) (c_Sh_markOf (b := 1) (k := k) (w := 1) hn sh_1 hk (by decide)) k_Sh_markOf l_Sg_99 (by decide +kernel) (by omega) rfl rfl rfl rfl (Nat.le_of_ble_eq_true rfl) (by decide) ⟨by decide, by decide⟩ ?_
    rintro a σ1 ⟨ea, hσ⟩
    obtain rfl := hσ.symm
    have ea : a = σ 8 (9 * k + 1) := ea
    subst ea
    refine g_i2l (by decide +kernel) ⟨by omega, by omega⟩ ?_
    refine g_lmul (by decide +kernel) ?_
    refine g_lstore (i := 5) (L' := [(0, _), (1, _), (2, _), (3, _), (4, _), (5, _)]) (by decide +kernel) rfl rfl ?_
    refine g_lload (i := 5) (by decide +kernel) rfl ?_
    refine g_iload (i := 4) (by decide +kernel) rfl ?_
    refine g_i2l (by decide +kernel) ⟨by omega, by omega⟩ ?_
    refine g_lrem (by decide +kernel) ⟨by omega, by omega, by omega, by omega⟩ ?_
    refine g_l2i (by decide +kernel) ?_
    refine g_istore (i := 7) (L' := [(0, _), (1, _), (2, _), (3, _), (4, _), (5, _), (7, _)]) (by decide +kernel) rfl rfl ?_
    refine g_aload_n (i := 1) (by decide +kernel) rfl ?_
    refine g_getr f_Sg_154 (by decide +kernel) (by omega) hP.a0 rfl ?_
    refine g_iload_n (i := 2) (by decide +kernel) rfl ?_
    refine g_lload (i := 5) (by decide +kernel) rfl ?_
    refine g_iload (i := 4) (by decide +kernel) rfl ?_
    refine g_i2l (by decide +kernel) ⟨by omega, by omega⟩ ?_
    refine g_ldiv (by decide +kernel) ⟨by omega, by omega, by omega, by omega⟩ ?_
    refine g_l2i (by decide +kernel) ?_
    refine g_iast (j := k) (by decide +kernel) (by omega) hP.a3 rfl (by omega) (by decide) ?_
    refine g_aload_n (i := 1) (by decide +kernel) rfl ?_
    refine g_getr f_Sg_127 (by decide +kernel) (by omega) hP.a0 rfl ?_
    refine g_iload_n (i := 2) (by decide +kernel) rfl ?_
    refine g_aload_n (i := 0) (by decide +kernel) rfl ?_
    refine g_getr f_Sg_29 (by decide +kernel) (by omega) rfl rfl ?_
    refine g_iload_n (i := 2) (by decide +kernel) rfl ?_
    refine g_iconst (a := 4) (by decide +kernel) ?_
    refine g_cVI (st := [vi (k : Int), vr G (p + 2)]) (c_Sh_markOf (b := 1) (k := k) (w := 4) hn sh_1 hk (by decide)) k_Sh_markOf l_Sg_99 (by decide +kernel) (by omega) rfl rfl rfl rfl (Nat.le_of_ble_eq_true rfl) (by decide) ⟨by decide, by decide⟩ ?_
    rintro a σ1 ⟨ea, hσ⟩
    obtain rfl := hσ.symm
    have ea : a = zs σ (p + 3) k (s * σ 8 (9 * k + 1) / σ 22 k) 8 (9 * k + 4) := ea
    subst ea
    refine g_iconst (a := 1) (by decide +kernel) ?_
    refine g_icmp_ne (off := 13) (tgt := 82) (by decide +kernel) (by decide) ⟨by rw [zs_other (show 8 ≠ p + 3 by omega)]; omega, by rw [zs_other (show 8 ≠ p + 3 by omega)]; omega⟩ ⟨by omega, by omega⟩ (fun h69 => ?_) (fun h69 => ?_)
    · refine g_iload (i := 7) (by decide +kernel) rfl ?_
      refine g_iast (j := k) (by decide +kernel) (by omega) hP.a2 rfl (by omega) (by decide) ?_
      refine g_aload_n (i := 1) (by decide +kernel) rfl ?_
      refine g_getr f_Sg_157 (by decide +kernel) (by omega) hP.a0 rfl ?_
      refine g_iload_n (i := 2) (by decide +kernel) rfl ?_
      refine g_iload_n (i := 3) (by decide +kernel) rfl ?_
      refine g_iast (j := k) (by decide +kernel) (by omega) hP.a5 rfl (by omega) (by decide) ?_
      refine g_retV (by decide +kernel) rfl ⟨by decide, by decide⟩ ?_
      show _ = zFR σ p k s
      unfold zFR
      rw [zs_other (show 8 ≠ p + 3 by omega)] at h69
      first
        | rw [if_pos h69]
        | rw [if_neg h69]
    · refine g_iload (i := 4) (by decide +kernel) rfl ?_
      refine g_iconst (a := 1) (by decide +kernel) ?_
      refine g_isub (by decide +kernel) ?_
      refine g_iload (i := 7) (by decide +kernel) rfl ?_
      refine g_isub (by decide +kernel) ?_
      refine g_goto (off := 5) (tgt := 84) (by decide +kernel) (by decide) ?_
      refine g_iast (j := k) (by decide +kernel) (by omega) hP.a2 rfl (by omega) (by decide) ?_
      refine g_aload_n (i := 1) (by decide +kernel) rfl ?_
      refine g_getr f_Sg_157 (by decide +kernel) (by omega) hP.a0 rfl ?_
      refine g_iload_n (i := 2) (by decide +kernel) rfl ?_
      refine g_iload_n (i := 3) (by decide +kernel) rfl ?_
      refine g_iast (j := k) (by decide +kernel) (by omega) hP.a5 rfl (by omega) (by decide) ?_
      refine g_retV (by decide +kernel) rfl ⟨by decide, by decide⟩ ?_
      show _ = zFR σ p k s
      unfold zFR
      rw [zs_other (show 8 ≠ p + 3 by omega)] at h69
      first
        | rw [if_pos h69]
        | rw [if_neg h69]
  · exact absurd h13 (by omega)
def zOwn (σ : zSt) (p k : Nat) : Int := min 100 (min ((σ (p + 5) k + 1) * 100 / (σ 8 (9 * k + 7) + 1)) ((σ 23 k - σ (p + 5) k) * 100 / (σ 8 (9 * k + 8) + 1)))
def zStr (σ : zSt) (p k : Nat) : Int := zOwn σ p k * (if σ 3 k = -1 then 100 else σ (p + 6) (σ 3 k).toNat) / 100
theorem zOwn_in {σ : zSt} {p k : Nat} (h5 : 0 ≤ σ (p + 5) k) (ha : σ (p + 5) k ≤ σ 23 k) (h7 : 0 ≤ σ 8 (9 * k + 7)) (h8 : 0 ≤ σ 8 (9 * k + 8)) : 0 ≤ zOwn σ p k ∧ zOwn σ p k ≤ 100 := by
  have a : 0 ≤ (σ (p + 5) k + 1) * 100 / (σ 8 (9 * k + 7) + 1) := Int.ediv_nonneg (by omega) (by omega)
  have b : 0 ≤ (σ 23 k - σ (p + 5) k) * 100 / (σ 8 (9 * k + 8) + 1) := Int.ediv_nonneg (by omega) (by omega)
  unfold zOwn
  omega
theorem c_Sg_strengthOf {G : zG} {n : Nat} {σ : zSt} {p k : Nat} (hn : 189 ≤ n) (hP : zMo SH p) (hp2 : 27 ≤ p) (hk : k < 12) (hg : zGood σ 1) (h5 : 0 ≤ σ (p + 5) k ∧ σ (p + 5) k ≤ σ 23 k) (ha : σ 23 k ≤ 1000000000) (h6 : ∀ j, j < 12 → 0 ≤ σ (p + 6) j ∧ σ (p + 6) j ≤ 100) : Gm G y_Sg_strengthOf m_Sg_strengthOf 1 0 0 [vr G 33, vr G p, vi k] n SH σ (zI n SH (fun a σ' => a = zStr σ p k ∧ σ' = σ)) := by
  refine g_enter (L := [(0, _), (1, _), (2, _)]) (by decide) rfl rfl rfl (Nat.le_of_ble_eq_true rfl) (fun X => ?_)
  have hp := hP.1
  have m7 : 0 ≤ σ 8 (9 * k + 7) ∧ σ 8 (9 * k + 7) ≤ 999 := hg.2.2.1 (9 * k + 7) (by omega)
  have m8 : 0 ≤ σ 8 (9 * k + 8) ∧ σ 8 (9 * k + 8) ≤ 999 := hg.2.2.1 (9 * k + 8) (by omega)
  have ar : -1 ≤ σ 3 k ∧ σ 3 k ≤ 11 := (hg.2.1 k hk).2.1
  have ow := zOwn_in h5.1 h5.2 m7.1 m8.1
  have v1 : 0 ≤ (σ (p + 5) k + 1) * 100 / (σ 8 (9 * k + 7) + 1) := Int.ediv_nonneg (by omega) (by omega)
  have v2 : 0 ≤ (σ 23 k - σ (p + 5) k) * 100 / (σ 8 (9 * k + 8) + 1) := Int.ediv_nonneg (by omega) (by omega)
  have v3 := Int.ediv_le_self (b := σ 8 (9 * k + 7) + 1) (show 0 ≤ (σ (p + 5) k + 1) * 100 by omega)
  have v4 := Int.ediv_le_self (b := σ 8 (9 * k + 8) + 1) (show 0 ≤ (σ 23 k - σ (p + 5) k) * 100 by omega)
  have st : 0 ≤ (if σ 3 k = -1 then 100 else σ (p + 6) (σ 3 k).toNat) ∧ (if σ 3 k = -1 then 100 else σ (p + 6) (σ 3 k).toNat) ≤ 100 := by
    split
    · omega
    · exact h6 _ (by omega)
  have pr0 : 0 ≤ zOwn σ p k * (if σ 3 k = -1 then 100 else σ (p + 6) (σ 3 k).toNat) := Int.mul_nonneg ow.1 st.1
  have pr1 : zOwn σ p k * (if σ 3 k = -1 then 100 else σ (p + 6) (σ 3 k).toNat) ≤ 100 * 100 := Int.mul_le_mul ow.2 st.2 st.1 (by omega)
  have J111 : Go G X m_Sg_strengthOf (1, 0, 0, 0, 0) n SH σ 111 [(0, vr G 33), (1, vr G p), (2, vi k), (3, vi (σ 3 k)), (4, vi (σ (p + 5) k)), (5, vl ((σ (p + 5) k + 1) * 100 / (σ 8 (9 * k + 7) + 1))), (7, vl ((σ 23 k - σ (p + 5) k) * 100 / (σ 8 (9 * k + 8) + 1))), (9, vi (zOwn σ p k))] [vi (if σ 3 k = -1 then 100 else σ (p + 6) (σ 3 k).toNat), vi (zOwn σ p k)] (zI n SH (fun a σ' => a = zStr σ p k ∧ σ' = σ)) := by
    refine g_imul (by decide +kernel) ?_
    refine g_bipush (a := 100) (by decide +kernel) (by decide) ?_
    refine g_idiv (by decide +kernel) ⟨by omega, by omega, by omega, by omega⟩ ?_
    refine g_retI (by decide +kernel) rfl (Or.inl rfl) ⟨by decide, by decide⟩ ?_
    exact ⟨rfl, rfl⟩
  refine g_aload_n (i := 0) (by decide +kernel) rfl ?_
  refine g_getr f_Sg_29 (by decide +kernel) (by omega) rfl rfl ?_
  refine g_getr f_Sg_124 (by decide +kernel) (by omega) rfl rfl ?_
  refine g_iload_n (i := 2) (by decide +kernel) rfl ?_
  refine g_iald (j := k) (by decide +kernel) (by omega) rfl rfl (by omega) (by decide) ?_
  refine g_istore_n (i := 3) (L' := [(0, _), (1, _), (2, _), (3, _)]) (by decide +kernel) rfl rfl ?_
  refine g_aload_n (i := 1) (by decide +kernel) rfl ?_
  refine g_getr f_Sg_157 (by decide +kernel) (by omega) hP.a0 rfl ?_
  refine g_iload_n (i := 2) (by decide +kernel) rfl ?_
  refine g_iald (j := k) (by decide +kernel) (by omega) hP.a5 rfl (by omega) (by decide) ?_
  refine g_istore (i := 4) (L' := [(0, _), (1, _), (2, _), (3, _), (4, _)]) (by decide +kernel) rfl rfl ?_
  refine g_iload (i := 4) (by decide +kernel) rfl ?_
  refine g_i2l (by decide +kernel) ⟨by omega, by omega⟩ ?_
  refine g_lconst (c := 1) (a := 1) (by decide +kernel) (by decide) ?_
  refine g_ladd (by decide +kernel) ?_
  refine g_ldc2 (x := 160) (a := 100) (by decide +kernel) c_Sg_160 (by decide) ?_
  refine g_lmul (by decide +kernel) ?_
  refine g_aload_n (i := 0) (by decide +kernel) rfl ?_
  refine g_getr f_Sg_29 (by decide +kernel) (by omega) rfl rfl ?_
  refine g_iload_n (i := 2) (by decide +kernel) rfl ?_
  refine g_bipush (a := 7) (by decide +kernel) (by decide) ?_
  refine g_cVI (st := [vl ((σ (p + 5) k + 1) * 100)]) (c_Sh_markOf (b := 1) (k := k) (w := 7) hn sh_1 hk (by decide)) k_Sh_markOf l_Sg_99 (by decide +kernel) (by omega) rfl rfl rfl rfl (Nat.le_of_ble_eq_true rfl) (by decide) ⟨by decide, by decide⟩ ?_
  rintro a σ1 ⟨ea, hσ⟩
  obtain rfl := hσ.symm
  have ea : a = σ 8 (9 * k + 7) := ea
  subst ea
  refine g_iconst (a := 1) (by decide +kernel) ?_
  refine g_iadd (by decide +kernel) ?_
  refine g_i2l (by decide +kernel) ⟨by omega, by omega⟩ ?_
  refine g_ldiv (by decide +kernel) ⟨by omega, by omega, by omega, by omega⟩ ?_
  refine g_lstore (i := 5) (L' := [(0, _), (1, _), (2, _), (3, _), (4, _), (5, _)]) (by decide +kernel) rfl rfl ?_
  refine g_aload_n (i := 0) (by decide +kernel) rfl ?_
  refine g_getr f_Sg_33 (by decide +kernel) (by omega) rfl rfl ?_
  refine g_getr f_Sg_144 (by decide +kernel) (by omega) rfl rfl ?_
  refine g_iload_n (i := 2) (by decide +kernel) rfl ?_
  refine g_iald (j := k) (by decide +kernel) (by omega) rfl rfl (by omega) (by decide) ?_
  refine g_i2l (by decide +kernel) ⟨by omega, by omega⟩ ?_
  refine g_iload (i := 4) (by decide +kernel) rfl ?_
  refine g_i2l (by decide +kernel) ⟨by omega, by omega⟩ ?_
  refine g_lsub (by decide +kernel) ?_
  refine g_ldc2 (x := 160) (a := 100) (by decide +kernel) c_Sg_160 (by decide) ?_
  refine g_lmul (by decide +kernel) ?_
  refine g_aload_n (i := 0) (by decide +kernel) rfl ?_
  refine g_getr f_Sg_29 (by decide +kernel) (by omega) rfl rfl ?_
  refine g_iload_n (i := 2) (by decide +kernel) rfl ?_
  refine g_bipush (a := 8) (by decide +kernel) (by decide) ?_
  refine g_cVI (st := [vl ((σ 23 k - σ (p + 5) k) * 100)]) (c_Sh_markOf (b := 1) (k := k) (w := 8) hn sh_1 hk (by decide)) k_Sh_markOf l_Sg_99 (by decide +kernel) (by omega) rfl rfl rfl rfl (Nat.le_of_ble_eq_true rfl) (by decide) ⟨by decide, by decide⟩ ?_
  rintro a σ1 ⟨ea, hσ⟩
  obtain rfl := hσ.symm
  have ea : a = σ 8 (9 * k + 8) := ea
  subst ea
  refine g_iconst (a := 1) (by decide +kernel) ?_
  refine g_iadd (by decide +kernel) ?_
  refine g_i2l (by decide +kernel) ⟨by omega, by omega⟩ ?_
  refine g_ldiv (by decide +kernel) ⟨by omega, by omega, by omega, by omega⟩ ?_
  refine g_lstore (i := 7) (L' := [(0, _), (1, _), (2, _), (3, _), (4, _), (5, _), (7, _)]) (by decide +kernel) rfl rfl ?_
  refine g_ldc2 (x := 160) (a := 100) (by decide +kernel) c_Sg_160 (by decide) ?_
  refine g_lload (i := 5) (by decide +kernel) rfl ?_
  refine g_lload (i := 7) (by decide +kernel) rfl ?_
  refine g_minL ma_minL_Sg_162 (by decide +kernel) ⟨by omega, by omega⟩ ⟨by omega, by omega⟩ (Nat.le_of_ble_eq_true rfl) (by decide) ⟨by decide, by decide⟩ ?_
  refine g_minL ma_minL_Sg_162 (by decide +kernel) ⟨by omega, by omega⟩ ⟨by omega, by omega⟩ (Nat.le_of_ble_eq_true rfl) (by decide) ⟨by decide, by decide⟩ ?_
  refine g_l2i (by decide +kernel) ?_
  refine g_istore (i := 9) (L' := [(0, _), (1, _), (2, _), (3, _), (4, _), (5, _), (7, _), (9, _)]) (by decide +kernel) rfl rfl ?_
  refine g_iload (i := 9) (by decide +kernel) rfl ?_
  refine g_iload_n (i := 3) (by decide +kernel) rfl ?_
  refine g_iconst (a := -1) (by decide +kernel) ?_
  refine g_icmp_ne (off := 8) (tgt := 105) (by decide +kernel) (by decide) ⟨by omega, by omega⟩ ⟨by omega, by omega⟩ (fun h97 => ?_) (fun h97 => ?_)
  · refine g_aload_n (i := 1) (by decide +kernel) rfl ?_
    refine g_getr f_Sg_109 (by decide +kernel) (by omega) hP.a0 rfl ?_
    refine g_iload_n (i := 3) (by decide +kernel) rfl ?_
    refine g_iald (j := (σ 3 k).toNat) (by decide +kernel) (by omega) hP.a6 (by omega) (by omega) (by decide) ?_
    exact g_eq J111 rfl rfl (by first | (rw [if_pos h97]; rfl) | (rw [if_neg h97]; rfl))
  · refine g_bipush (a := 100) (by decide +kernel) (by decide) ?_
    refine g_goto (off := 9) (tgt := 111) (by decide +kernel) (by decide) ?_
    exact g_eq J111 rfl rfl (by first | (rw [if_pos h97]; rfl) | (rw [if_neg h97]; rfl))
