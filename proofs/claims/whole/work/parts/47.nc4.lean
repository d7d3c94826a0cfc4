theorem zcmp_r {a b : Int} : zr (zcmp a b) := by unfold zcmp; (repeat' split) <;> exact ⟨by decide, by decide⟩
theorem zcmp_eq {a b : Int} : zcmp a b = 0 ↔ a = b := by unfold zcmp; (repeat' split) <;> omega
theorem zcmp_ne {a b : Int} : zcmp a b ≠ 0 ↔ a ≠ b := by unfold zcmp; (repeat' split) <;> omega
theorem zcmp_lt {a b : Int} : zcmp a b < 0 ↔ a < b := by unfold zcmp; (repeat' split) <;> omega
theorem zcmp_ge {a b : Int} : 0 ≤ zcmp a b ↔ b ≤ a := by unfold zcmp; (repeat' split) <;> omega
theorem zcmp_gt {a b : Int} : 0 < zcmp a b ↔ b < a := by unfold zcmp; (repeat' split) <;> omega
theorem zcmp_le {a b : Int} : zcmp a b ≤ 0 ↔ a ≤ b := by unfold zcmp; (repeat' split) <;> omega
theorem c_Nc_both {G : zG} {n : Nat} {σ : zSt} {c d : Int} (hn : 189 ≤ n) (ho : zOn σ) (hR : zRs (σ 93)) (z1 : zr c) (z2 : zr d) : Gm G y_Nc_both m_Nc_both 6 0 0 [vr G 0, vi c, vi d] n SH σ (zI n SH (fun a σ' => zRes σ σ' a (if (0 ≤ c ∧ c < σ 1 0) ∧ (0 ≤ d ∧ d < σ 1 0) then 0 else 2) (zcnt (fun s => decide (zv (zSv σ 1) (s : Int) 1 c.toNat = 2 ∧ zv (zSv σ 1) (s : Int) 1 d.toNat = 2)) 2000 : Int))) := by
  refine g_enter (L := [(0, _), (1, _), (2, _)]) (by decide) rfl rfl rfl (Nat.le_of_ble_eq_true rfl) (fun X => ?_)
  have hc := ho.1.1
  obtain ⟨z1a, z1b⟩ := id z1
  obtain ⟨z2a, z2b⟩ := id z2
  have J32 : (0 ≤ c ∧ c < σ 1 0) ∧ (0 ≤ d ∧ d < σ 1 0) → Go G X m_Nc_both (6, 0, 0, 0, 0) n SH σ 32 [(0, vr G 0), (1, vi c), (2, vi d), (3, vi 1)] [] (zI n SH (fun a σ' => zRes σ σ' a (if (0 ≤ c ∧ c < σ 1 0) ∧ (0 ≤ d ∧ d < σ 1 0) then 0 else 2) (zcnt (fun s => decide (zv (zSv σ 1) (s : Int) 1 c.toNat = 2 ∧ zv (zSv σ 1) (s : Int) 1 d.toNat = 2)) 2000 : Int))) := by
    intro hh
    refine g_aload_n (i := 0) (by decide +kernel) rfl ?_
    refine g_aload_n (i := 0) (by decide +kernel) rfl ?_
    refine g_iload_n (i := 1) (by decide +kernel) rfl ?_
    refine g_iload_n (i := 2) (by decide +kernel) rfl ?_
    obtain ⟨k, ek⟩ := Int.eq_ofNat_of_zero_le hh.1.1
    obtain ⟨l, el⟩ := Int.eq_ofNat_of_zero_le hh.2.1
    rw [ek, el]
    refine g_cVI (st := _) (c_Nc_timesOfBoth (c := k) (d := l) hn ho hR (by omega) (by omega)) k_Nc_timesOfBoth l_Nc_328 (by decide +kernel) (by omega) rfl rfl rfl rfl (Nat.le_of_ble_eq_true rfl) (by decide) ⟨by decide, by decide⟩ ?_
    rintro a τ1 ⟨hL, ea⟩
    refine g_cVI (st := _) (c_Nc_give hn) k_Nc_give l_Nc_208 (by decide +kernel) (by omega) rfl rfl rfl rfl (Nat.le_of_ble_eq_true rfl) (by decide) ⟨by decide, by decide⟩ ?_
    rintro a9 σ9 ⟨ea9, hσ9⟩
    obtain rfl := ea9.symm
    subst hσ9
    refine g_goto (off := 8) (tgt := 50) (by decide +kernel) (by decide) ?_
    refine g_retI (by decide +kernel) rfl (Or.inl rfl) ⟨by decide, by decide⟩ ?_
    first
      | (have hz : ¬ ((0 ≤ c ∧ c < σ 1 0) ∧ (0 ≤ d ∧ d < σ 1 0)) := hh
         exact zRes.no (zQf.rf ho hR) (if_neg hz) (by decide))
      | exact zRes.ok (hL.q hR) (if_pos (by omega)) (by rw [Int.toNat_natCast, Int.toNat_natCast]; exact ea.symm)
  have J45 : ¬ ((0 ≤ c ∧ c < σ 1 0) ∧ (0 ≤ d ∧ d < σ 1 0)) → Go G X m_Nc_both (6, 0, 0, 0, 0) n SH σ 45 [(0, vr G 0), (1, vi c), (2, vi d), (3, vi 0)] [] (zI n SH (fun a σ' => zRes σ σ' a (if (0 ≤ c ∧ c < σ 1 0) ∧ (0 ≤ d ∧ d < σ 1 0) then 0 else 2) (zcnt (fun s => decide (zv (zSv σ 1) (s : Int) 1 c.toNat = 2 ∧ zv (zSv σ 1) (s : Int) 1 d.toNat = 2)) 2000 : Int))) := by
    intro hh
    refine g_aload_n (i := 0) (by decide +kernel) rfl ?_
    refine g_iconst (a := 2) (by decide +kernel) ?_
    refine g_cVI (st := _) (c_Nc_refuse hn) k_Nc_refuse l_Nc_97 (by decide +kernel) (by omega) rfl rfl rfl rfl (Nat.le_of_ble_eq_true rfl) (by decide) ⟨by decide, by decide⟩ ?_
    rintro a9 σ9 ⟨ea9, hσ9⟩
    obtain rfl := ea9.symm
    subst hσ9
    refine g_retI (by decide +kernel) rfl (Or.inl rfl) ⟨by decide, by decide⟩ ?_
    first
      | (have hz : ¬ ((0 ≤ c ∧ c < σ 1 0) ∧ (0 ≤ d ∧ d < σ 1 0)) := hh
         exact zRes.no (zQf.rf ho hR) (if_neg hz) (by decide))
      | exact zRes.ok (hL.q hR) (if_pos (by omega)) (by rw [Int.toNat_natCast, Int.toNat_natCast]; exact ea.symm)
  refine g_aload_n (i := 0) (by decide +kernel) rfl ?_
  refine g_getr f_Nc_10 (by decide +kernel) (by omega) rfl rfl ?_
  refine g_iload_n (i := 1) (by decide +kernel) rfl ?_
  refine g_cVI (st := _) (c_Sh_has (b := 1) hn sh_1 (by assumption) ⟨hc.1, hc.2.1⟩) k_Sh_has l_Nc_117 (by decide +kernel) (by omega) rfl rfl rfl rfl (Nat.le_of_ble_eq_true rfl) (by decide) ⟨by decide, by decide⟩ ?_
  rintro a σ9 ⟨ea, hσ⟩
  obtain rfl := hσ.symm
  subst ea
  refine g_if_eq (off := 18) (tgt := 26) (by decide +kernel) (by decide) zbr (fun h8 => ?_) (fun h8 => ?_)
  · have h8 := zb0.mp h8
    refine g_iconst (a := 0) (by decide +kernel) ?_
    refine g_istore_n (i := 3) (L' := [(0, _), (1, _), (2, _), (3, _)]) (by decide +kernel) rfl rfl ?_
    refine g_iload_n (i := 3) (by decide +kernel) rfl ?_
    refine g_if_eq (off := 16) (tgt := 45) (by decide +kernel) (by decide) ⟨by omega, by omega⟩ (fun h29 => ?_) (fun h29 => ?_)
    · first
        | exact absurd h29 (by decide)
        | exact J45 (by omega)
    · first
        | exact absurd rfl h29
        | exact J32 ⟨h8, h19⟩
  · have h8 := zb1.mp h8
    refine g_aload_n (i := 0) (by decide +kernel) rfl ?_
    refine g_getr f_Nc_10 (by decide +kernel) (by omega) rfl rfl ?_
    refine g_iload_n (i := 2) (by decide +kernel) rfl ?_
    refine g_cVI (st := _) (c_Sh_has (b := 1) hn sh_1 (by assumption) ⟨hc.1, hc.2.1⟩) k_Sh_has l_Nc_117 (by decide +kernel) (by omega) rfl rfl rfl rfl (Nat.le_of_ble_eq_true rfl) (by decide) ⟨by decide, by decide⟩ ?_
    rintro a σ9 ⟨ea, hσ⟩
    obtain rfl := hσ.symm
    subst ea
    refine g_if_eq (off := 7) (tgt := 26) (by decide +kernel) (by decide) zbr (fun h19 => ?_) (fun h19 => ?_)
    · have h19 := zb0.mp h19
      refine g_iconst (a := 0) (by decide +kernel) ?_
      refine g_istore_n (i := 3) (L' := [(0, _), (1, _), (2, _), (3, _)]) (by decide +kernel) rfl rfl ?_
      refine g_iload_n (i := 3) (by decide +kernel) rfl ?_
      refine g_if_eq (off := 16) (tgt := 45) (by decide +kernel) (by decide) ⟨by omega, by omega⟩ (fun h29 => ?_) (fun h29 => ?_)
      · first
          | exact absurd h29 (by decide)
          | exact J45 (by omega)
      · first
          | exact absurd rfl h29
          | exact J32 ⟨h8, h19⟩
    · have h19 := zb1.mp h19
      refine g_iconst (a := 1) (by decide +kernel) ?_
      refine g_goto (off := 4) (tgt := 27) (by decide +kernel) (by decide) ?_
      refine g_istore_n (i := 3) (L' := [(0, _), (1, _), (2, _), (3, _)]) (by decide +kernel) rfl rfl ?_
      refine g_iload_n (i := 3) (by decide +kernel) rfl ?_
      refine g_if_eq (off := 16) (tgt := 45) (by decide +kernel) (by decide) ⟨by omega, by omega⟩ (fun h29 => ?_) (fun h29 => ?_)
      · first
          | exact absurd h29 (by decide)
          | exact J45 (by omega)
      · first
          | exact absurd rfl h29
          | exact J32 ⟨h8, h19⟩
/-- the l-th of those from t on for which q holds -/
def zwn (q : Nat → Bool) : Nat → Nat → Int → Int
  | 0, _, _ => -1
  | m + 1, t, l => if q t = true then (if l = 0 then (t : Int) else zwn q m (t + 1) (l - 1)) else zwn q m (t + 1) l
theorem zwn_s (q : Nat → Bool) (m t : Nat) (l : Int) : zwn q (m + 1) t l = if q t = true then (if l = 0 then (t : Int) else zwn q m (t + 1) (l - 1)) else zwn q m (t + 1) l := rfl
theorem w_Nc_when {G : zG} {X : zX} {n : Nat} {σ : zSt} {c w i : Int} (hn : 189 ≤ n) (ho : zOn σ) (hR : zRs (σ 93)) (z2 : zr w) (z3 : zr i) (hw : 0 ≤ w) (hi0 : 0 ≤ i) (h22 : 0 ≤ c ∧ c < σ 1 0) : ∀ (m : Nat) (t : Nat) (x4 x5 : Int) (τ : zSt), x5 = (t : Int) → zwn (fun s => decide (zplay (zSv σ 1) c.toNat s = w)) 2000 0 i = zwn (fun s => decide (zplay (zSv σ 1) c.toNat s = w)) (2000 - t) t x4 → (0 ≤ x4 ∧ x4 ≤ 2147483647) → zLo σ τ → t ≤ 2000 → 2000 < t + m → Go G X m_Nc_when (5, 0, 0, 0, 0) n SH τ 37 [(0, vr G 0), (1, vi c), (2, vi w), (3, vi i), (4, vi x4), (5, vi x5)] [] (zI n SH (fun a σ' => zRes σ σ' a (if w < 0 ∨ i < 0 then 1 else if ¬ (0 ≤ c ∧ c < σ 1 0) then 2 else if zwn (fun s => decide (zplay (zSv σ 1) c.toNat s = w)) 2000 0 i = -1 then 8 else 0) (zwn (fun s => decide (zplay (zSv σ 1) c.toNat s = w)) 2000 0 i))) := by
  intro m
  induction m with
  | zero => intro t x4 x5 τ e5 e1 hx hL ht hm; exact absurd hm (by omega)
  | succ m ih =>
    intro t x4 x5 τ e5 e1 hx hL ht hm
    have hc := ho.1.1
    subst e5
    refine g_iload (i := 5) (by decide +kernel) rfl ?_
    refine g_sipush (a := 1999) (by decide +kernel) (by decide) ?_
    refine g_icmp_gt (off := 41) (tgt := 83) (by decide +kernel) (by decide) ⟨by omega, by omega⟩ ⟨by omega, by omega⟩ (fun h42 => ?_) (fun h42 => ?_)
    · refine g_aload_n (i := 0) (by decide +kernel) rfl ?_
      refine g_bipush (a := 8) (by decide +kernel) (by decide) ?_
      refine g_cVI (st := _) (c_Nc_refuse hn) k_Nc_refuse l_Nc_97 (by decide +kernel) (by omega) rfl rfl rfl rfl (Nat.le_of_ble_eq_true rfl) (by decide) ⟨by decide, by decide⟩ ?_
      rintro a9 σ9 ⟨ea9, hσ9⟩
      obtain rfl := ea9.symm
      subst hσ9
      refine g_retI (by decide +kernel) rfl (Or.inl rfl) ⟨by decide, by decide⟩ ?_
      rw [show 2000 - t = 0 by omega] at e1
      exact zRes.no (hL.q hR) (by rw [if_neg (by omega), if_neg (by omega), if_pos (show _ = (-1 : Int) from e1)]) (by decide)
    · rw [show 2000 - t = (2000 - (t + 1)) + 1 by omega, zwn_s _ (2000 - (t + 1))] at e1
      refine g_aload_n (i := 0) (by decide +kernel) rfl ?_
      refine g_getr f_Nc_34 (by decide +kernel) (by omega) rfl rfl ?_
      refine g_iload (i := 5) (by decide +kernel) rfl ?_
      refine g_cVO (st := _) (c_Sg_at (t := (t : Int)) hn hL.1 ⟨by omega, by omega⟩) k_Sg_at l_Nc_255 (by decide +kernel) (by omega) rfl rfl rfl rfl (Nat.le_of_ble_eq_true rfl) (by decide) ⟨by decide, by decide⟩ ?_
      rintro q τ1 ⟨eq, hA⟩
      subst eq
      obtain ⟨hA, hL1⟩ := hL.at ho hA
      refine g_iload_n (i := 1) (by decide +kernel) rfl ?_
      obtain ⟨k, ek⟩ := Int.eq_ofNat_of_zero_le h22.1
      have mr := hL1.1.mr.2 k (by omega)
      have m2 : -1 ≤ τ1 36 k ∧ τ1 36 k ≤ 1000000000 := mr.2.1
      have ep : (if τ1 35 k = 2 then τ1 36 k else -1) = zplay (zSv σ 1) c.toNat t := by
        rw [ek, Int.toNat_natCast]
        exact zPlage (hA.2.2.1 k (by omega) 1 (by decide) (by decide)) (hA.2.2.1 k (by omega) 2 (by decide) (by decide))
      rw [ek]
      refine g_cVI (st := _) (c_Mo_playedLocal (b := 34) (k := k) hn mo_34 (by omega) mr.1) k_Mo_playedLocal l_Nc_331 (by decide +kernel) (by omega) rfl rfl rfl rfl (Nat.le_of_ble_eq_true rfl) (by decide) ⟨by decide, by decide⟩ ?_
      rintro a σ9 ⟨ea, hσ⟩
      obtain rfl := hσ.symm
      have ea : a = zplay (zSv σ 1) c.toNat t := by rw [ea]; exact ep
      have ra : -1 ≤ a ∧ a ≤ 1000000000 := by
        rw [ea, ← ep]
        split
        · exact m2
        · exact ⟨by decide, by decide⟩
      rw [← ek]
      obtain ⟨z2a, z2b⟩ := id z2
      refine g_iload_n (i := 2) (by decide +kernel) rfl ?_
      refine g_icmp_ne (off := 18) (tgt := 77) (by decide +kernel) (by decide) ⟨by omega, by omega⟩ ⟨by omega, by omega⟩ (fun h59 => ?_) (fun h59 => ?_)
      · refine g_iinc (i := 5) (b := 1) (L' := [(0, _), (1, _), (2, _), (3, _), (4, _), (5, _)]) (by decide +kernel) rfl rfl rfl ?_
        refine g_goto (off := -43) (tgt := 37) (by decide +kernel) (by decide) ?_
        first
          | (have hz : ¬ a = w := h59
             rw [if_neg (fun q => hz (by rw [ea]; exact of_decide_eq_true q))] at e1
             exact ih (t + 1) _ _ _ (by push_cast; rfl) e1 hx hL1 (by omega) (by omega))
          | (rw [if_pos (decide_eq_true (by rw [← ea]; exact h59)), if_neg h64] at e1
             exact ih (t + 1) _ _ _ (by push_cast; rfl) e1 (by omega) hL1 (by omega) (by omega))
      · refine g_iload (i := 4) (by decide +kernel) rfl ?_
        refine g_if_ne (off := 10) (tgt := 74) (by decide +kernel) (by decide) ⟨by omega, by omega⟩ (fun h64 => ?_) (fun h64 => ?_)
        · refine g_iinc (i := 4) (b := -1) (L' := [(0, _), (1, _), (2, _), (3, _), (4, _), (5, _)]) (by decide +kernel) rfl rfl rfl ?_
          refine g_iinc (i := 5) (b := 1) (L' := [(0, _), (1, _), (2, _), (3, _), (4, _), (5, _)]) (by decide +kernel) rfl rfl rfl ?_
          refine g_goto (off := -43) (tgt := 37) (by decide +kernel) (by decide) ?_
          first
            | (have hz : ¬ a = w := h59
               rw [if_neg (fun q => hz (by rw [ea]; exact of_decide_eq_true q))] at e1
               exact ih (t + 1) _ _ _ (by push_cast; rfl) e1 hx hL1 (by omega) (by omega))
            | (rw [if_pos (decide_eq_true (by rw [← ea]; exact h59)), if_neg h64] at e1
               exact ih (t + 1) _ _ _ (by push_cast; rfl) e1 (by omega) hL1 (by omega) (by omega))
        · refine g_aload_n (i := 0) (by decide +kernel) rfl ?_
          refine g_iload (i := 5) (by decide +kernel) rfl ?_
          refine g_cVI (st := _) (c_Nc_give hn) k_Nc_give l_Nc_208 (by decide +kernel) (by omega) rfl rfl rfl rfl (Nat.le_of_ble_eq_true rfl) (by decide) ⟨by decide, by decide⟩ ?_
          rintro a9 σ9 ⟨ea9, hσ9⟩
          obtain rfl := ea9.symm
          subst hσ9
          refine g_retI (by decide +kernel) rfl (Or.inl rfl) ⟨by decide, by decide⟩ ?_
          rw [if_pos (decide_eq_true (by rw [← ea]; exact h59)), if_pos h64] at e1
          exact zRes.ok (hL1.q hR) (by rw [if_neg (by omega), if_neg (by omega), if_neg (by rw [e1]; omega)]) e1
theorem c_Nc_when {G : zG} {n : Nat} {σ : zSt} {c w i : Int} (hn : 189 ≤ n) (ho : zOn σ) (hR : zRs (σ 93)) (z1 : zr c) (z2 : zr w) (z3 : zr i) : Gm G y_Nc_when m_Nc_when 5 0 0 [vr G 0, vi c, vi w, vi i] n SH σ (zI n SH (fun a σ' => zRes σ σ' a (if w < 0 ∨ i < 0 then 1 else if ¬ (0 ≤ c ∧ c < σ 1 0) then 2 else if zwn (fun s => decide (zplay (zSv σ 1) c.toNat s = w)) 2000 0 i = -1 then 8 else 0) (zwn (fun s => decide (zplay (zSv σ 1) c.toNat s = w)) 2000 0 i))) := by
  refine g_enter (L := [(0, _), (1, _), (2, _), (3, _)]) (by decide) rfl rfl rfl (Nat.le_of_ble_eq_true rfl) (fun X => ?_)
  have hc := ho.1.1
  obtain ⟨z1a, z1b⟩ := id z1
  obtain ⟨z2a, z2b⟩ := id z2
  obtain ⟨z3a, z3b⟩ := id z3
  refine g_iload_n (i := 2) (by decide +kernel) rfl ?_
  refine g_if_lt (off := 7) (tgt := 8) (by decide +kernel) (by decide) ⟨by omega, by omega⟩ (fun h1 => ?_) (fun h1 => ?_)
  · refine g_aload_n (i := 0) (by decide +kernel) rfl ?_
    refine g_iconst (a := 1) (by decide +kernel) ?_
    refine g_cVI (st := _) (c_Nc_refuse hn) k_Nc_refuse l_Nc_97 (by decide +kernel) (by omega) rfl rfl rfl rfl (Nat.le_of_ble_eq_true rfl) (by decide) ⟨by decide, by decide⟩ ?_
    rintro a9 σ9 ⟨ea9, hσ9⟩
    obtain rfl := ea9.symm
    subst hσ9
    refine g_retI (by decide +kernel) rfl (Or.inl rfl) ⟨by decide, by decide⟩ ?_
    exact zRes.no (zQf.rf ho hR) (if_pos (by omega)) (by decide)
  · refine g_iload_n (i := 3) (by decide +kernel) rfl ?_
    refine g_if_ge (off := 9) (tgt := 14) (by decide +kernel) (by decide) ⟨by omega, by omega⟩ (fun h5 => ?_) (fun h5 => ?_)
    · refine g_aload_n (i := 0) (by decide +kernel) rfl ?_
      refine g_getr f_Nc_10 (by decide +kernel) (by omega) rfl rfl ?_
      refine g_iload_n (i := 1) (by decide +kernel) rfl ?_
      refine g_cVI (st := _) (c_Sh_has (b := 1) hn sh_1 (by assumption) ⟨hc.1, hc.2.1⟩) k_Sh_has l_Nc_117 (by decide +kernel) (by omega) rfl rfl rfl rfl (Nat.le_of_ble_eq_true rfl) (by decide) ⟨by decide, by decide⟩ ?_
      rintro a σ9 ⟨ea, hσ⟩
      obtain rfl := hσ.symm
      subst ea
      refine g_if_ne (off := 9) (tgt := 31) (by decide +kernel) (by decide) zbr (fun h22 => ?_) (fun h22 => ?_)
      · have h22 := zb1.mp h22
        refine g_iload_n (i := 3) (by decide +kernel) rfl ?_
        refine g_istore (i := 4) (L' := [(0, _), (1, _), (2, _), (3, _), (4, _)]) (by decide +kernel) rfl rfl ?_
        refine g_iconst (a := 0) (by decide +kernel) ?_
        refine g_istore (i := 5) (L' := [(0, _), (1, _), (2, _), (3, _), (4, _), (5, _)]) (by decide +kernel) rfl rfl ?_
        exact w_Nc_when hn ho hR z2 z3 (by omega) (by omega) h22 2001 0 _ _ σ rfl rfl (by omega) (zLo.rf ho) (by omega) (by omega)
      · have h22 := zb0.mp h22
        refine g_aload_n (i := 0) (by decide +kernel) rfl ?_
        refine g_iconst (a := 2) (by decide +kernel) ?_
        refine g_cVI (st := _) (c_Nc_refuse hn) k_Nc_refuse l_Nc_97 (by decide +kernel) (by omega) rfl rfl rfl rfl (Nat.le_of_ble_eq_true rfl) (by decide) ⟨by decide, by decide⟩ ?_
        rintro a9 σ9 ⟨ea9, hσ9⟩
        obtain rfl := ea9.symm
        subst hσ9
        refine g_retI (by decide +kernel) rfl (Or.inl rfl) ⟨by decide, by decide⟩ ?_
        exact zRes.no (zQf.rf ho hR) (by rw [if_neg (by omega), if_pos h22]) (by decide)
    · refine g_aload_n (i := 0) (by decide +kernel) rfl ?_
      refine g_iconst (a := 1) (by decide +kernel) ?_
      refine g_cVI (st := _) (c_Nc_refuse hn) k_Nc_refuse l_Nc_97 (by decide +kernel) (by omega) rfl rfl rfl rfl (Nat.le_of_ble_eq_true rfl) (by decide) ⟨by decide, by decide⟩ ?_
      rintro a9 σ9 ⟨ea9, hσ9⟩
      obtain rfl := ea9.symm
      subst hσ9
      refine g_retI (by decide +kernel) rfl (Or.inl rfl) ⟨by decide, by decide⟩ ?_
      exact zRes.no (zQf.rf ho hR) (if_pos (by omega)) (by decide)
theorem zall_congr {f g : Nat → Int} : ∀ {n : Nat}, (∀ k, k < n → f k = g k) → zall f n = zall g n
  | 0, _ => rfl
  | n + 1, h => by unfold zall; rw [zall_congr (fun k hk => h k (by omega)), h n (by omega)]
theorem zall_in {f : Nat → Int} : ∀ {n : Nat}, (∀ k, k < n → 0 ≤ f k ∧ f k ≤ 4) → 0 ≤ zall f n ∧ zall f n < 8 ^ n
  | 0, _ => ⟨Int.le_refl 0, show (0 : Int) < 1 by decide⟩
  | n + 1, h => by
    have a := zall_in (fun k hk => h k (by omega)) (n := n) (f := f)
    have b := h n (by omega)
    have e : (8 : Int) ^ (n + 1) = 8 ^ n * 8 := Int.pow_succ 8 n
    unfold zall
    rw [e]; omega
theorem zall_inj {f g : Nat → Int} : ∀ {n : Nat}, (∀ k, k < n → 0 ≤ f k ∧ f k ≤ 4) → (∀ k, k < n → 0 ≤ g k ∧ g k ≤ 4) → zall f n = zall g n → ∀ k, k < n → f k = g k
  | 0, _, _, _, k, hk => by omega
  | n + 1, hf, hg, e, k, hk => by
    have a := hf n (by omega)
    have b := hg n (by omega)
    unfold zall at e
    have e1 : zall f n = zall g n := by omega
    rcases Nat.lt_or_ge k n with z | z
    · exact zall_inj (fun k hk => hf k (by omega)) (fun k hk => hg k (by omega)) e1 k z
    · rw [show k = n by omega]; omega
theorem zall_zr {f : Nat → Int} {n : Nat} (hn : n ≤ 12) (h : ∀ k, k < n → 0 ≤ f k ∧ f k ≤ 4) : 0 ≤ zall f n ∧ zall f n < 68719476736 := by
  have a := zall_in h
  have b : ∀ n, n < 13 → (8 : Int) ^ n ≤ 68719476736 := by decide
  have c := b n (by omega)
  omega
/-- whether a state at t is another than at u -/
noncomputable def zdif (S : zSt) (t u : Int) : Bool := zany (fun k => decide (zv S t 1 k ≠ zv S u 1 k)) (zN S)
theorem zdif_iff {S : zSt} {t u : Int} (h1 : ∀ k, k < zN S → 0 ≤ zv S t 1 k ∧ zv S t 1 k ≤ 4) (h2 : ∀ k, k < zN S → 0 ≤ zv S u 1 k ∧ zv S u 1 k ≤ 4) : zdif S t u = true ↔ zall (zv S t 1) (zN S) ≠ zall (zv S u 1) (zN S) := by
  unfold zdif
  rw [zany_iff]
  constructor
  · rintro ⟨k, hk, q⟩ e
    exact of_decide_eq_true q (zall_inj h1 h2 e k hk)
  · intro ne
    refine Classical.byContradiction (fun q => ne (zall_congr (fun k hk => ?_)))
    exact Classical.byContradiction (fun z => q ⟨k, hk, decide_eq_true z⟩)
theorem zAtP.s4 {σ τ : zSt} {t : Int} (hA : zAtP σ τ t) (ho : zOn σ) : ∀ k, k < zN (zSv σ 1) → 0 ≤ zv (zSv σ 1) t 1 k ∧ zv (zSv σ 1) t 1 k ≤ 4 := fun k hk => by
  have hk' : k < (σ 1 0).toNat := hk
  have hc := ho.1.1
  rw [← hA.2.2.1 k hk' 1 (by decide) (by decide)]
  exact ((hA.on ho).mr.2 k (by omega)).1
theorem w_Nc_changes {G : zG} {X : zX} {n : Nat} {σ : zSt} (hn : 189 ≤ n) (ho : zOn σ) (hR : zRs (σ 93)) {N : Nat} (eN : σ 1 0 = (N : Int)) (NN : zN (zSv σ 1) = N) : ∀ (m : Nat) (t : Nat) (x1 x2 x4 : Int) (τ : zSt), x4 = (t : Int) → x1 = (zcnt (fun s => decide (1 ≤ s) && zdif (zSv σ 1) (s : Int) ((s : Int) - 1)) t : Int) → x2 = zall (zv (zSv σ 1) ((t : Int) - 1) 1) N → (∀ k, k < N → 0 ≤ zv (zSv σ 1) ((t : Int) - 1) 1 k ∧ zv (zSv σ 1) ((t : Int) - 1) 1 k ≤ 4) → zLo σ τ → (1 ≤ t ∧ t ≤ 2000) → 2000 < t + m → Go G X m_Nc_changes (5, 0, 0, 0, 0) n SH τ 24 [(0, vr G 0), (1, vi x1), (2, vl x2), (4, vi x4)] [] (zI n SH (fun a σ' => zLo σ σ' ∧ a = (zcnt (fun s => decide (1 ≤ s) && zdif (zSv σ 1) (s : Int) ((s : Int) - 1)) 2000 : Int))) := by
  intro m
  induction m with
  | zero => intro t x1 x2 x4 τ e4 e1 e2 h2 hL ht hm; exact absurd hm (by omega)
  | succ m ih =>
    intro t x1 x2 x4 τ e4 e1 e2 h2 hL ht hm
    have hc := ho.1.1
    have b2 := zall_zr (f := zv (zSv σ 1) ((t : Int) - 1) 1) (n := N) (by omega) h2
    rw [← e2] at b2
    subst e4
    refine g_iload (i := 4) (by decide +kernel) rfl ?_
    refine g_sipush (a := 1999) (by decide +kernel) (by decide) ?_
    refine g_icmp_gt (off := 43) (tgt := 72) (by decide +kernel) (by decide) ⟨by omega, by omega⟩ ⟨by omega, by omega⟩ (fun h29 => ?_) (fun h29 => ?_)
    · refine g_iload_n (i := 1) (by decide +kernel) rfl ?_
      refine g_retI (by decide +kernel) rfl (Or.inl rfl) ⟨by decide, by decide⟩ ?_
      exact ⟨hL, by rw [e1, show t = 2000 by omega]⟩
    · refine g_aload_n (i := 0) (by decide +kernel) rfl ?_
      refine g_getr f_Nc_34 (by decide +kernel) (by omega) rfl rfl ?_
      refine g_iload (i := 4) (by decide +kernel) rfl ?_
      refine g_cVO (st := _) (c_Sg_at (t := (t : Int)) hn hL.1 ⟨by omega, by omega⟩) k_Sg_at l_Nc_255 (by decide +kernel) (by omega) rfl rfl rfl rfl (Nat.le_of_ble_eq_true rfl) (by decide) ⟨by decide, by decide⟩ ?_
      rintro q τ1 ⟨eq, hA⟩
      subst eq
      obtain ⟨hA, hL1⟩ := hL.at ho hA
      refine g_aload_n (i := 0) (by decide +kernel) rfl ?_
      refine g_getr f_Nc_10 (by decide +kernel) (by omega) rfl rfl ?_
      refine g_geti f_Nc_111 (by decide +kernel) (by omega) rfl rfl ?_
      have eT : τ1 1 0 = (N : Int) := by rw [hA.1 1 (by decide)]; exact eN
      rw [eT]
      refine g_cVL (st := _) (c_Mo_allStates (b := 34) (N := N) hn mo_34 (fun k hk => (hL1.1.mr.2 k hk).1) (by omega)) k_Mo_allStates l_Nc_334 (by decide +kernel) (by omega) rfl rfl rfl rfl (Nat.le_of_ble_eq_true rfl) (by decide) ⟨by decide, by decide⟩ ?_
      rintro a σ9 ⟨ea, hσ⟩
      obtain rfl := hσ.symm
      have ea : a = zall (zv (zSv σ 1) (t : Int) 1) N := by
        rw [ea]
        exact zall_congr (fun k hk => hA.2.2.1 k (by omega) 1 (by decide) (by decide))
      have s4 := hA.s4 ho
      rw [show zN (zSv σ 1) = N by show (σ 1 0).toNat = N; omega] at s4
      subst ea
      have b4 := zall_zr (by omega) s4
      refine g_lstore (i := 5) (L' := [(0, _), (1, _), (2, _), (4, _), (5, _)]) (by decide +kernel) rfl rfl ?_
      refine g_lload (i := 5) (by decide +kernel) rfl ?_
      refine g_lload_n (i := 2) (by decide +kernel) rfl ?_
      refine g_lcmp (by decide +kernel) ⟨by omega, by omega⟩ ⟨by omega, by omega⟩ ?_
      refine g_if_eq (off := 6) (tgt := 63) (by decide +kernel) (by decide) zcmp_r (fun h57 => ?_) (fun h57 => ?_)
      · have h57 := zcmp_eq.mp h57
        have hz : zdif (zSv σ 1) (t : Int) ((t : Int) - 1) = false := by
          cases hd : zdif (zSv σ 1) (t : Int) ((t : Int) - 1) with
          | false => rfl
          | true => exact absurd h57 (by have := (zdif_iff (by rw [NN]; exact s4) (by rw [NN]; exact h2)).mp hd; rw [NN, ← e2] at this; exact this)
        have e1 : x1 = (zcnt (fun s => decide (1 ≤ s) && zdif (zSv σ 1) (s : Int) ((s : Int) - 1)) (t + 1) : Int) := by rw [zcnt_f (by rw [hz, Bool.and_false]), e1]
        refine g_lload (i := 5) (by decide +kernel) rfl ?_
        refine g_lstore_n (i := 2) (L' := [(0, _), (1, _), (2, _), (4, _), (5, _)]) (by decide +kernel) rfl rfl ?_
        refine g_iinc (i := 4) (b := 1) (L' := [(0, _), (1, _), (2, _), (4, _), (5, _)]) (by decide +kernel) rfl rfl rfl ?_
        refine g_goto (off := -45) (tgt := 24) (by decide +kernel) (by decide) ?_
        refine g_less (L' := [(0, _), (1, _), (2, _), (4, _)]) [0, 1, 2, 3] rfl ?_
        exact (ih (t + 1) _ _ _ _ (by push_cast; rfl) e1 (by rw [show ((t + 1 : Nat) : Int) - 1 = (t : Int) by push_cast; omega]) (by rw [show ((t + 1 : Nat) : Int) - 1 = (t : Int) by push_cast; omega]; exact s4) hL1 (by omega) (by omega))
      · have h57 := zcmp_ne.mp h57
        have hz : zdif (zSv σ 1) (t : Int) ((t : Int) - 1) = true := (zdif_iff (by rw [NN]; exact s4) (by rw [NN]; exact h2)).mpr (by rw [NN, ← e2]; exact h57)
        have e1 : x1 + 1 = (zcnt (fun s => decide (1 ≤ s) && zdif (zSv σ 1) (s : Int) ((s : Int) - 1)) (t + 1) : Int) := by rw [zcnt_t (by rw [hz, decide_eq_true ht.1]; rfl), e1]; push_cast; rfl
        refine g_iinc (i := 1) (b := 1) (L' := [(0, _), (1, _), (2, _), (4, _), (5, _)]) (by decide +kernel) rfl rfl rfl ?_
        refine g_lload (i := 5) (by decide +kernel) rfl ?_
        refine g_lstore_n (i := 2) (L' := [(0, _), (1, _), (2, _), (4, _), (5, _)]) (by decide +kernel) rfl rfl ?_
        refine g_iinc (i := 4) (b := 1) (L' := [(0, _), (1, _), (2, _), (4, _), (5, _)]) (by decide +kernel) rfl rfl rfl ?_
        refine g_goto (off := -45) (tgt := 24) (by decide +kernel) (by decide) ?_
        refine g_less (L' := [(0, _), (1, _), (2, _), (4, _)]) [0, 1, 2, 3] rfl ?_
        exact (ih (t + 1) _ _ _ _ (by push_cast; rfl) e1 (by rw [show ((t + 1 : Nat) : Int) - 1 = (t : Int) by push_cast; omega]) (by rw [show ((t + 1 : Nat) : Int) - 1 = (t : Int) by push_cast; omega]; exact s4) hL1 (by omega) (by omega))
theorem c_Nc_changes {G : zG} {n : Nat} {σ : zSt} (hn : 189 ≤ n) (ho : zOn σ) (hR : zRs (σ 93)) : Gm G y_Nc_changes m_Nc_changes 5 0 0 [vr G 0] n SH σ (zI n SH (fun a σ' => zLo σ σ' ∧ a = (zcnt (fun s => decide (1 ≤ s) && zdif (zSv σ 1) (s : Int) ((s : Int) - 1)) 2000 : Int))) := by
  refine g_enter (L := [(0, _)]) (by decide) rfl rfl rfl (Nat.le_of_ble_eq_true rfl) (fun X => ?_)
  have hc := ho.1.1
  obtain ⟨N, eN⟩ := Int.eq_ofNat_of_zero_le hc.1
  have NN : zN (zSv σ 1) = N := by show (σ 1 0).toNat = N; omega
  refine g_iconst (a := 0) (by decide +kernel) ?_
  refine g_istore_n (i := 1) (L' := [(0, _), (1, _)]) (by decide +kernel) rfl rfl ?_
  refine g_aload_n (i := 0) (by decide +kernel) rfl ?_
  refine g_getr f_Nc_34 (by decide +kernel) (by omega) rfl rfl ?_
  refine g_iconst (a := 0) (by decide +kernel) ?_
  refine g_cVO (st := _) (c_Sg_at (t := 0) hn ho ⟨by decide, by decide⟩) k_Sg_at l_Nc_255 (by decide +kernel) (by omega) rfl rfl rfl rfl (Nat.le_of_ble_eq_true rfl) (by decide) ⟨by decide, by decide⟩ ?_
  rintro q τ1 ⟨eq, hA⟩
  subst eq
  refine g_aload_n (i := 0) (by decide +kernel) rfl ?_
  refine g_getr f_Nc_10 (by decide +kernel) (by omega) rfl rfl ?_
  refine g_geti f_Nc_111 (by decide +kernel) (by omega) rfl rfl ?_
  have eT : τ1 1 0 = (N : Int) := by rw [hA.1 1 (by decide)]; exact eN
  rw [eT]
  refine g_cVL (st := _) (c_Mo_allStates (b := 34) (N := N) hn mo_34 (fun k hk => ((hA.on ho).mr.2 k hk).1) (by omega)) k_Mo_allStates l_Nc_334 (by decide +kernel) (by omega) rfl rfl rfl rfl (Nat.le_of_ble_eq_true rfl) (by decide) ⟨by decide, by decide⟩ ?_
  rintro a σ9 ⟨ea, hσ⟩
  obtain rfl := hσ.symm
  have ea : a = zall (zv (zSv σ 1) 0 1) N := by
    rw [ea]
    exact zall_congr (fun k hk => hA.2.2.1 k (by omega) 1 (by decide) (by decide))
  have s4 := hA.s4 ho
  rw [show zN (zSv σ 1) = N by show (σ 1 0).toNat = N; omega] at s4
  subst ea
  have b4 := zall_zr (by omega) s4
  refine g_lstore_n (i := 2) (L' := [(0, _), (1, _), (2, _)]) (by decide +kernel) rfl rfl ?_
  refine g_iconst (a := 1) (by decide +kernel) ?_
  refine g_istore (i := 4) (L' := [(0, _), (1, _), (2, _), (4, _)]) (by decide +kernel) rfl rfl ?_
  exact w_Nc_changes hn ho hR eN NN 2000 1 _ _ _ τ1 rfl rfl rfl s4 ⟨hA.on ho, hA.1⟩ (by omega) (by omega)
theorem w_Nc_next {G : zG} {X : zX} {n : Nat} {σ : zSt} {u : Int} (hn : 189 ≤ n) (ho : zOn σ) (hR : zRs (σ 93)) {N : Nat} (eN : σ 1 0 = (N : Int)) (NN : zN (zSv σ 1) = N) (hu : 0 ≤ u ∧ u ≤ 1999) {x2 : Int} (e2 : x2 = zall (zv (zSv σ 1) u 1) N) (h2 : ∀ k, k < N → 0 ≤ zv (zSv σ 1) u 1 k ∧ zv (zSv σ 1) u 1 k ≤ 4) : ∀ (m : Nat) (t : Nat) (x4 : Int) (τ : zSt), x4 = (t : Int) → zfr (fun s => zdif (zSv σ 1) (s : Int) ((s : Int) - 1)) (1999 - u).toNat (u + 1).toNat = zfr (fun s => zdif (zSv σ 1) (s : Int) ((s : Int) - 1)) (2000 - t) t → (∀ k, k < N → zv (zSv σ 1) ((t : Int) - 1) 1 k = zv (zSv σ 1) u 1 k) → zLo σ τ → t ≤ 2000 → 2000 < t + m → Go G X m_Nc_next (5, 0, 0, 0, 0) n SH τ 37 [(0, vr G 0), (1, vi u), (2, vl x2), (4, vi x4)] [] (zI n SH (fun a σ' => zRes σ σ' a (if ¬ (0 ≤ u ∧ u ≤ 1999) then 1 else if zfr (fun s => zdif (zSv σ 1) (s : Int) ((s : Int) - 1)) (1999 - u).toNat (u + 1).toNat = -1 then 8 else 0) (zfr (fun s => zdif (zSv σ 1) (s : Int) ((s : Int) - 1)) (1999 - u).toNat (u + 1).toNat))) := by
  intro m
  induction m with
  | zero => intro t x4 τ e4 e1 h3 hL ht hm; exact absurd hm (by omega)
  | succ m ih =>
    intro t x4 τ e4 e1 h3 hL ht hm
    have hc := ho.1.1
    have b2 := zall_zr (f := zv (zSv σ 1) u 1) (n := N) (by omega) h2
    rw [← e2] at b2
    have h3r : ∀ k, k < zN (zSv σ 1) → 0 ≤ zv (zSv σ 1) ((t : Int) - 1) 1 k ∧ zv (zSv σ 1) ((t : Int) - 1) 1 k ≤ 4 := fun k hk => by rw [h3 k (by omega)]; exact h2 k (by omega)
    have e3 : zall (zv (zSv σ 1) ((t : Int) - 1) 1) N = x2 := by rw [e2]; exact zall_congr h3
    subst e4
    refine g_iload (i := 4) (by decide +kernel) rfl ?_
    refine g_sipush (a := 1999) (by decide +kernel) (by decide) ?_
    refine g_icmp_gt (off := 40) (tgt := 82) (by decide +kernel) (by decide) ⟨by omega, by omega⟩ ⟨by omega, by omega⟩ (fun h42 => ?_) (fun h42 => ?_)
    · refine g_aload_n (i := 0) (by decide +kernel) rfl ?_
      refine g_bipush (a := 8) (by decide +kernel) (by decide) ?_
      refine g_cVI (st := _) (c_Nc_refuse hn) k_Nc_refuse l_Nc_97 (by decide +kernel) (by omega) rfl rfl rfl rfl (Nat.le_of_ble_eq_true rfl) (by decide) ⟨by decide, by decide⟩ ?_
      rintro a9 σ9 ⟨ea9, hσ9⟩
      obtain rfl := ea9.symm
      subst hσ9
      refine g_retI (by decide +kernel) rfl (Or.inl rfl) ⟨by decide, by decide⟩ ?_
      rw [show 2000 - t = 0 by omega] at e1
      exact zRes.no (hL.q hR) (by rw [if_neg (by omega), if_pos (show _ = (-1 : Int) from e1)]) (by decide)
    · rw [show 2000 - t = (2000 - (t + 1)) + 1 by omega, zfr_s _ (2000 - (t + 1))] at e1
      refine g_aload_n (i := 0) (by decide +kernel) rfl ?_
      refine g_getr f_Nc_34 (by decide +kernel) (by omega) rfl rfl ?_
      refine g_iload (i := 4) (by decide +kernel) rfl ?_
      refine g_cVO (st := _) (c_Sg_at (t := (t : Int)) hn hL.1 ⟨by omega, by omega⟩) k_Sg_at l_Nc_255 (by decide +kernel) (by omega) rfl rfl rfl rfl (Nat.le_of_ble_eq_true rfl) (by decide) ⟨by decide, by decide⟩ ?_
      rintro q τ1 ⟨eq, hA⟩
      subst eq
      obtain ⟨hA, hL1⟩ := hL.at ho hA
      refine g_aload_n (i := 0) (by decide +kernel) rfl ?_
      refine g_getr f_Nc_10 (by decide +kernel) (by omega) rfl rfl ?_
      refine g_geti f_Nc_111 (by decide +kernel) (by omega) rfl rfl ?_
      have eT : τ1 1 0 = (N : Int) := by rw [hA.1 1 (by decide)]; exact eN
      rw [eT]
      refine g_cVL (st := _) (c_Mo_allStates (b := 34) (N := N) hn mo_34 (fun k hk => (hL1.1.mr.2 k hk).1) (by omega)) k_Mo_allStates l_Nc_334 (by decide +kernel) (by omega) rfl rfl rfl rfl (Nat.le_of_ble_eq_true rfl) (by decide) ⟨by decide, by decide⟩ ?_
      rintro a σ9 ⟨ea, hσ⟩
      obtain rfl := hσ.symm
      have ea : a = zall (zv (zSv σ 1) (t : Int) 1) N := by
        rw [ea]
        exact zall_congr (fun k hk => hA.2.2.1 k (by omega) 1 (by decide) (by decide))
      have s4 := hA.s4 ho
      rw [show zN (zSv σ 1) = N by show (σ 1 0).toNat = N; omega] at s4
      subst ea
      have b4 := zall_zr (by omega) s4
      refine g_lload_n (i := 2) (by decide +kernel) rfl ?_
      refine g_lcmp (by decide +kernel) ⟨by omega, by omega⟩ ⟨by omega, by omega⟩ ?_
      refine g_if_eq (off := 10) (tgt := 76) (by decide +kernel) (by decide) zcmp_r (fun h66 => ?_) (fun h66 => ?_)
      · have h66 := zcmp_eq.mp h66
        have hz : ¬ zdif (zSv σ 1) (t : Int) ((t : Int) - 1) = true := fun hd => by
          have := (zdif_iff (by rw [NN]; exact s4) h3r).mp hd
          rw [NN, e3] at this
          exact this h66
        rw [if_neg hz] at e1
        refine g_iinc (i := 4) (b := 1) (L' := [(0, _), (1, _), (2, _), (4, _)]) (by decide +kernel) rfl rfl rfl ?_
        refine g_goto (off := -42) (tgt := 37) (by decide +kernel) (by decide) ?_
        refine ih (t + 1) _ _ (by push_cast; rfl) e1 (fun k hk => ?_) hL1 (by omega) (by omega)
        rw [show ((t + 1 : Nat) : Int) - 1 = (t : Int) by push_cast; omega]
        exact zall_inj s4 h2 (by rw [← e2]; exact h66) k hk
      · have h66 := zcmp_ne.mp h66
        have hz : zdif (zSv σ 1) (t : Int) ((t : Int) - 1) = true := (zdif_iff (by rw [NN]; exact s4) h3r).mpr (by rw [NN, e3]; exact h66)
        rw [if_pos hz] at e1
        refine g_aload_n (i := 0) (by decide +kernel) rfl ?_
        refine g_iload (i := 4) (by decide +kernel) rfl ?_
        refine g_cVI (st := _) (c_Nc_give hn) k_Nc_give l_Nc_208 (by decide +kernel) (by omega) rfl rfl rfl rfl (Nat.le_of_ble_eq_true rfl) (by decide) ⟨by decide, by decide⟩ ?_
        rintro a9 σ9 ⟨ea9, hσ9⟩
        obtain rfl := ea9.symm
        subst hσ9
        refine g_retI (by decide +kernel) rfl (Or.inl rfl) ⟨by decide, by decide⟩ ?_
        exact zRes.ok (hL1.q hR) (by rw [if_neg (by omega), if_neg (by rw [e1]; omega)]) e1
theorem c_Nc_next {G : zG} {n : Nat} {σ : zSt} {u : Int} (hn : 189 ≤ n) (ho : zOn σ) (hR : zRs (σ 93)) (z1 : zr u) : Gm G y_Nc_next m_Nc_next 5 0 0 [vr G 0, vi u] n SH σ (zI n SH (fun a σ' => zRes σ σ' a (if ¬ (0 ≤ u ∧ u ≤ 1999) then 1 else if zfr (fun s => zdif (zSv σ 1) (s : Int) ((s : Int) - 1)) (1999 - u).toNat (u + 1).toNat = -1 then 8 else 0) (zfr (fun s => zdif (zSv σ 1) (s : Int) ((s : Int) - 1)) (1999 - u).toNat (u + 1).toNat))) := by
  refine g_enter (L := [(0, _), (1, _)]) (by decide) rfl rfl rfl (Nat.le_of_ble_eq_true rfl) (fun X => ?_)
  have hc := ho.1.1
  obtain ⟨z1a, z1b⟩ := id z1
  obtain ⟨N, eN⟩ := Int.eq_ofNat_of_zero_le hc.1
  have NN : zN (zSv σ 1) = N := by show (σ 1 0).toNat = N; omega
  refine g_iload_n (i := 1) (by decide +kernel) rfl ?_
  refine g_cSI (st := _) (c_Nc_isTime (by assumption)) k_Nc_isTime l_Nc_187 (by decide +kernel) rfl rfl (Nat.le_of_ble_eq_true rfl) (by decide) ⟨by decide, by decide⟩ ?_
  rintro a σ9 ⟨ea, hσ⟩
  obtain rfl := hσ.symm
  subst ea
  refine g_if_ne (off := 9) (tgt := 13) (by decide +kernel) (by decide) zbr (fun h4 => ?_) (fun h4 => ?_)
  · have h4 := zb1.mp h4
    refine g_aload_n (i := 0) (by decide +kernel) rfl ?_
    refine g_getr f_Nc_34 (by decide +kernel) (by omega) rfl rfl ?_
    refine g_iload_n (i := 1) (by decide +kernel) rfl ?_
    refine g_cVO (st := _) (c_Sg_at hn ho ⟨by omega, by omega⟩) k_Sg_at l_Nc_255 (by decide +kernel) (by omega) rfl rfl rfl rfl (Nat.le_of_ble_eq_true rfl) (by decide) ⟨by decide, by decide⟩ ?_
    rintro q τ1 ⟨eq, hA⟩
    subst eq
    refine g_aload_n (i := 0) (by decide +kernel) rfl ?_
    refine g_getr f_Nc_10 (by decide +kernel) (by omega) rfl rfl ?_
    refine g_geti f_Nc_111 (by decide +kernel) (by omega) rfl rfl ?_
    have eT : τ1 1 0 = (N : Int) := by rw [hA.1 1 (by decide)]; exact eN
    rw [eT]
    refine g_cVL (st := _) (c_Mo_allStates (b := 34) (N := N) hn mo_34 (fun k hk => ((hA.on ho).mr.2 k hk).1) (by omega)) k_Mo_allStates l_Nc_334 (by decide +kernel) (by omega) rfl rfl rfl rfl (Nat.le_of_ble_eq_true rfl) (by decide) ⟨by decide, by decide⟩ ?_
    rintro a σ9 ⟨ea, hσ⟩
    obtain rfl := hσ.symm
    have ea : a = zall (zv (zSv σ 1) u 1) N := by
      rw [ea]
      exact zall_congr (fun k hk => hA.2.2.1 k (by omega) 1 (by decide) (by decide))
    have s4 := hA.s4 ho
    rw [show zN (zSv σ 1) = N by show (σ 1 0).toNat = N; omega] at s4
    subst ea
    have b4 := zall_zr (by omega) s4
    refine g_lstore_n (i := 2) (L' := [(0, _), (1, _), (2, _)]) (by decide +kernel) rfl rfl ?_
    refine g_iload_n (i := 1) (by decide +kernel) rfl ?_
    refine g_iconst (a := 1) (by decide +kernel) ?_
    refine g_iadd (by decide +kernel) ?_
    refine g_istore (i := 4) (L' := [(0, _), (1, _), (2, _), (4, _)]) (by decide +kernel) rfl rfl ?_
    exact w_Nc_next hn ho hR eN NN h4 rfl s4 2001 (u + 1).toNat _ τ1 (by omega) (by rw [show 2000 - (u + 1).toNat = (1999 - u).toNat by omega]) (fun k hk => by rw [show ((u + 1).toNat : Int) - 1 = u by omega]) ⟨hA.on ho, hA.1⟩ (by omega) (by omega)
  · have h4 := zb0.mp h4
    refine g_aload_n (i := 0) (by decide +kernel) rfl ?_
    refine g_iconst (a := 1) (by decide +kernel) ?_
    refine g_cVI (st := _) (c_Nc_refuse hn) k_Nc_refuse l_Nc_97 (by decide +kernel) (by omega) rfl rfl rfl rfl (Nat.le_of_ble_eq_true rfl) (by decide) ⟨by decide, by decide⟩ ?_
    rintro a9 σ9 ⟨ea9, hσ9⟩
    obtain rfl := ea9.symm
    subst hσ9
    refine g_retI (by decide +kernel) rfl (Or.inl rfl) ⟨by decide, by decide⟩ ?_
    exact zRes.no (zQf.rf ho hR) (if_pos h4) (by decide)
