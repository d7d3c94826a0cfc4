theorem w_La_howManyOpen {G : zG} {X : zX} {n : Nat} {σ : zSt} {c N : Nat} (hn : 189 ≤ n) (hL : zLa SH c) (hN : N ≤ 12) (ho : ∀ k, k < 12 → σ (c + 5) k = 0 ∨ σ (c + 5) k = 1) : ∀ (m : Nat) (i : Nat) (x2 x3 : Int), x3 = (i : Int) → x2 = (zcnt (fun j => decide (σ (c + 5) j ≠ 0)) i : Int) → i ≤ N → N < i + m → Go G X m_La_howManyOpen (0, 0, 0, 0, 0) n SH σ 4 [(0, vr G c), (1, vi (N : Int)), (2, vi x2), (3, vi x3)] [] (zI n SH (fun a σ' => a = (zcnt (fun j => decide (σ (c + 5) j ≠ 0)) N : Int) ∧ σ' = σ)) := by
  intro m
  induction m with
  | zero => intro i x2 x3 e3 e2 hi hm; exact absurd hm (by omega)
  | succ m ih =>
    intro i x2 x3 e3 e2 hi hm
    have hcc := hL.1
    subst e3 e2
    refine g_iload_n (i := 3) (by decide +kernel) rfl ?_
    refine g_iload_n (i := 1) (by decide +kernel) rfl ?_
    refine g_icmp_ge (off := 21) (tgt := 27) (by decide +kernel) (by decide) ⟨by omega, by omega⟩ ⟨by omega, by omega⟩ (fun h6 => ?_) (fun h6 => ?_)
    · refine g_iload_n (i := 2) (by decide +kernel) rfl ?_
      refine g_retI (by decide +kernel) rfl (Or.inl rfl) ⟨by decide, by decide⟩ ?_
      exact ⟨by rw [show i = N by omega], rfl⟩
    · have hoi := ho i (by omega)
      refine g_aload_n (i := 0) (by decide +kernel) rfl ?_
      refine g_getr f_La_24 (by decide +kernel) (by omega) hL.a0 rfl ?_
      refine g_iload_n (i := 3) (by decide +kernel) rfl ?_
      refine g_zald (j := i) (by decide +kernel) (by omega) hL.a5 rfl (by omega) (by decide) ?_
      refine g_if_eq (off := 6) (tgt := 21) (by decide +kernel) (by decide) ⟨by omega, by omega⟩ (fun h15 => ?_) (fun h15 => ?_)
      · refine g_iinc (i := 3) (b := 1) (L' := [(0, _), (1, _), (2, _), (3, _)]) (by decide +kernel) rfl rfl rfl ?_
        refine g_goto (off := -20) (tgt := 4) (by decide +kernel) (by decide) ?_
        exact ih (i + 1) _ _ (by omega) (by first | (rw [zcnt_t (by simpa using h15)]; push_cast; rfl) | (rw [zcnt_f (by simpa using h15)])) (by omega) (by omega)
      · refine g_iinc (i := 2) (b := 1) (L' := [(0, _), (1, _), (2, _), (3, _)]) (by decide +kernel) rfl rfl rfl ?_
        refine g_iinc (i := 3) (b := 1) (L' := [(0, _), (1, _), (2, _), (3, _)]) (by decide +kernel) rfl rfl rfl ?_
        refine g_goto (off := -20) (tgt := 4) (by decide +kernel) (by decide) ?_
        exact ih (i + 1) _ _ (by omega) (by first | (rw [zcnt_t (by simpa using h15)]; push_cast; rfl) | (rw [zcnt_f (by simpa using h15)])) (by omega) (by omega)
theorem c_La_howManyOpen {G : zG} {n : Nat} {σ : zSt} {c N : Nat} (hn : 189 ≤ n) (hL : zLa SH c) (hN : N ≤ 12) (ho : ∀ k, k < 12 → σ (c + 5) k = 0 ∨ σ (c + 5) k = 1) : Gm G y_La_howManyOpen m_La_howManyOpen 0 0 0 [vr G c, vi (N : Int)] n SH σ (zI n SH (fun a σ' => a = (zcnt (fun j => decide (σ (c + 5) j ≠ 0)) N : Int) ∧ σ' = σ)) := by
  refine g_enter (L := [(0, _), (1, _)]) (by decide) rfl rfl rfl (Nat.le_of_ble_eq_true rfl) (fun X => ?_)
  refine g_iconst (a := 0) (by decide +kernel) ?_
  refine g_istore_n (i := 2) (L' := [(0, _), (1, _), (2, _)]) (by decide +kernel) rfl rfl ?_
  refine g_iconst (a := 0) (by decide +kernel) ?_
  refine g_istore_n (i := 3) (L' := [(0, _), (1, _), (2, _), (3, _)]) (by decide +kernel) rfl rfl ?_
  exact w_La_howManyOpen hn hL hN ho (N + 1) 0 _ _ rfl rfl (by omega) (by omega)
theorem c_La_activeOf {G : zG} {n : Nat} {σ : zSt} {b c : Nat} {k : Nat} (hn : 189 ≤ n) (hL : zLa SH c) (hS : zSw SH b) (hg : zGood σ b) (hbc : c + 6 ≤ b ∨ b + 10 ≤ c) (hk : k < 12) (hr : 1 ≤ σ (b + 7) (9 * k + 1)) (h0 : 0 ≤ σ (c + 1) k * σ (b + 7) (9 * k + 2)) (h1 : σ (c + 1) k * σ (b + 7) (9 * k + 2) ≤ 2000000000) : Gm G y_La_activeOf m_La_activeOf 1 0 0 [vr G c, vr G b, vi k] n SH σ (zI n SH (fun a σ' => a = zAc (zSv σ b) (σ (c + 1) k) k ∧ σ' = σ)) := by
  refine g_enter (L := [(0, _), (1, _), (2, _)]) (by decide) rfl rfl rfl (Nat.le_of_ble_eq_true rfl) (fun X => ?_)
  have hb := hS.1
  have hcc := hL.1
  have hc := hg.1
  have m1 := hg.2.2.1 (9 * k + 1) (by omega)
  have m3 := hg.2.2.1 (9 * k + 3) (by omega)
  have hw : 0 ≤ (σ (c + 1) k * σ (b + 7) (9 * k + 2) + σ (b + 7) (9 * k + 1) - 1) / σ (b + 7) (9 * k + 1) ∧ (σ (c + 1) k * σ (b + 7) (9 * k + 2) + σ (b + 7) (9 * k + 1) - 1) / σ (b + 7) (9 * k + 1) ≤ 2000001000 := ⟨Int.ediv_nonneg (by omega) (by omega), Int.le_trans (Int.ediv_le_self _ (by omega)) (by omega)⟩
  refine g_aload_n (i := 1) (by decide +kernel) rfl ?_
  refine g_iload_n (i := 2) (by decide +kernel) rfl ?_
  refine g_iconst (a := 1) (by decide +kernel) ?_
  refine g_cVI (st := []) (c_Sh_markOf (k := k) (w := 1) hn hS hk (by decide)) k_Sh_markOf l_La_47 (by decide +kernel) (by omega) hS.a0 rfl rfl rfl (Nat.le_of_ble_eq_true rfl) (by decide) ⟨by decide, by decide⟩ ?_
  rintro a σ1 ⟨rfl, hσ⟩
  obtain rfl := hσ.symm
  refine g_istore_n (i := 3) (L' := [(0, _), (1, _), (2, _), (3, _)]) (by decide +kernel) rfl rfl ?_
  refine g_aload_n (i := 1) (by decide +kernel) rfl ?_
  refine g_iload_n (i := 2) (by decide +kernel) rfl ?_
  refine g_iconst (a := 3) (by decide +kernel) ?_
  refine g_cVI (st := []) (c_Sh_markOf (k := k) (w := 3) hn hS hk (by decide)) k_Sh_markOf l_La_47 (by decide +kernel) (by omega) hS.a0 rfl rfl rfl (Nat.le_of_ble_eq_true rfl) (by decide) ⟨by decide, by decide⟩ ?_
  rintro a σ1 ⟨rfl, hσ⟩
  obtain rfl := hσ.symm
  refine g_istore (i := 4) (L' := [(0, _), (1, _), (2, _), (3, _), (4, _)]) (by decide +kernel) rfl rfl ?_
  refine g_aload_n (i := 0) (by decide +kernel) rfl ?_
  refine g_getr f_La_9 (by decide +kernel) (by omega) hL.a0 rfl ?_
  refine g_iload_n (i := 2) (by decide +kernel) rfl ?_
  refine g_iald (by decide +kernel) (by omega) hL.a1 rfl (by omega) (by decide) ?_
  refine g_aload_n (i := 1) (by decide +kernel) rfl ?_
  refine g_iload_n (i := 2) (by decide +kernel) rfl ?_
  refine g_iconst (a := 2) (by decide +kernel) ?_
  refine g_cVI (st := [vi (σ (c + 1) k)]) (c_Sh_markOf (k := k) (w := 2) hn hS hk (by decide)) k_Sh_markOf l_La_47 (by decide +kernel) (by omega) hS.a0 rfl rfl rfl (Nat.le_of_ble_eq_true rfl) (by decide) ⟨by decide, by decide⟩ ?_
  rintro a σ1 ⟨rfl, hσ⟩
  obtain rfl := hσ.symm
  refine g_imul (by decide +kernel) ?_
  refine g_iload_n (i := 3) (by decide +kernel) rfl ?_
  refine g_iadd (by decide +kernel) ?_
  refine g_iconst (a := 1) (by decide +kernel) ?_
  refine g_isub (by decide +kernel) ?_
  refine g_iload_n (i := 3) (by decide +kernel) rfl ?_
  refine g_idiv (by decide +kernel) ⟨by omega, by omega, by omega, by omega⟩ ?_
  refine g_istore (i := 5) (L' := [(0, _), (1, _), (2, _), (3, _), (4, _), (5, _)]) (by decide +kernel) rfl rfl ?_
  refine g_iload (i := 4) (by decide +kernel) rfl ?_
  refine g_if_le (off := 15) (tgt := 53) (by decide +kernel) (by decide) ⟨by omega, by omega⟩ (fun h38 => ?_) (fun h38 => ?_)
  · refine g_iload (i := 5) (by decide +kernel) rfl ?_
    refine g_retI (by decide +kernel) rfl (Or.inl rfl) ⟨by decide, by decide⟩ ?_
    refine ⟨?_, rfl⟩
    show _ = if 0 < σ (b + 7) (9 * k + 3) ∧ σ (b + 7) (9 * k + 3) < (σ (c + 1) k * σ (b + 7) (9 * k + 2) + σ (b + 7) (9 * k + 1) - 1) / σ (b + 7) (9 * k + 1) then _ else _
    first
      | rw [if_pos ⟨h38, h45⟩]; rfl
      | rw [if_neg (by omega)]; rfl
  · refine g_iload (i := 4) (by decide +kernel) rfl ?_
    refine g_iload (i := 5) (by decide +kernel) rfl ?_
    refine g_icmp_ge (off := 8) (tgt := 53) (by decide +kernel) (by decide) ⟨by omega, by omega⟩ ⟨by omega, by omega⟩ (fun h45 => ?_) (fun h45 => ?_)
    · refine g_iload (i := 5) (by decide +kernel) rfl ?_
      refine g_retI (by decide +kernel) rfl (Or.inl rfl) ⟨by decide, by decide⟩ ?_
      refine ⟨?_, rfl⟩
      show _ = if 0 < σ (b + 7) (9 * k + 3) ∧ σ (b + 7) (9 * k + 3) < (σ (c + 1) k * σ (b + 7) (9 * k + 2) + σ (b + 7) (9 * k + 1) - 1) / σ (b + 7) (9 * k + 1) then _ else _
      first
        | rw [if_pos ⟨h38, h45⟩]; rfl
        | rw [if_neg (by omega)]; rfl
    · refine g_iload (i := 4) (by decide +kernel) rfl ?_
      refine g_goto (off := 5) (tgt := 55) (by decide +kernel) (by decide) ?_
      refine g_retI (by decide +kernel) rfl (Or.inl rfl) ⟨by decide, by decide⟩ ?_
      refine ⟨?_, rfl⟩
      show _ = if 0 < σ (b + 7) (9 * k + 3) ∧ σ (b + 7) (9 * k + 3) < (σ (c + 1) k * σ (b + 7) (9 * k + 2) + σ (b + 7) (9 * k + 1) - 1) / σ (b + 7) (9 * k + 1) then _ else _
      first
        | rw [if_pos ⟨h38, h45⟩]; rfl
        | rw [if_neg (by omega)]; rfl
