theorem c_Sh_has {G : zG} {n : Nat} {σ : zSt} {b : Nat} {k : Int} (hn : 189 ≤ n) (hS : zSw SH b) (hk : zr k) (hc : 0 ≤ σ b 0 ∧ σ b 0 ≤ 12) : Gm G y_Sh_has m_Sh_has 0 0 0 [vr G b, vi k] n SH σ (zI n SH (fun a σ' => a = (if 0 ≤ k ∧ k < σ b 0 then 1 else 0) ∧ σ' = σ)) := by
  refine g_enter (L := [(0, _), (1, _)]) (by decide) rfl rfl rfl (Nat.le_of_ble_eq_true rfl) (fun X => ?_)
  have hb := hS.1
  refine g_iload_n (i := 1) (by decide +kernel) rfl ?_
  refine g_if_lt (off := 15) (tgt := 16) (by decide +kernel) (by decide) ⟨by omega, by omega⟩ (fun h1 => ?_) (fun h1 => ?_)
  · refine g_iconst (a := 0) (by decide +kernel) ?_
    refine g_retI (by decide +kernel) rfl (Or.inr ⟨rfl, by omega⟩) ⟨by decide, by decide⟩ ?_
    exact ⟨by split <;> omega, rfl⟩
  · refine g_iload_n (i := 1) (by decide +kernel) rfl ?_
    refine g_aload_n (i := 0) (by decide +kernel) rfl ?_
    refine g_geti f_Sh_39 (by decide +kernel) (by omega) hS.a0 rfl ?_
    refine g_icmp_ge (off := 7) (tgt := 16) (by decide +kernel) (by decide) ⟨by omega, by omega⟩ ⟨by omega, by omega⟩ (fun h9 => ?_) (fun h9 => ?_)
    · refine g_iconst (a := 0) (by decide +kernel) ?_
      refine g_retI (by decide +kernel) rfl (Or.inr ⟨rfl, by omega⟩) ⟨by decide, by decide⟩ ?_
      exact ⟨by split <;> omega, rfl⟩
    · refine g_iconst (a := 1) (by decide +kernel) ?_
      refine g_goto (off := 4) (tgt := 17) (by decide +kernel) (by decide) ?_
      refine g_retI (by decide +kernel) rfl (Or.inr ⟨rfl, by omega⟩) ⟨by decide, by decide⟩ ?_
      exact ⟨by split <;> omega, rfl⟩
theorem c_Sh_markOf {G : zG} {n : Nat} {σ : zSt} {b : Nat} {k w : Nat} (hn : 189 ≤ n) (hS : zSw SH b) (hk : k < 12) (hw : w < 9) : Gm G y_Sh_markOf m_Sh_markOf 0 0 0 [vr G b, vi k, vi w] n SH σ (zI n SH (fun a σ' => a = σ (b + 7) (9 * k + w) ∧ σ' = σ)) := by
  refine g_enter (L := [(0, _), (1, _), (2, _)]) (by decide) rfl rfl rfl (Nat.le_of_ble_eq_true rfl) (fun X => ?_)
  have hb := hS.1
  refine g_aload_n (i := 0) (by decide +kernel) rfl ?_
  refine g_getr f_Sh_30 (by decide +kernel) (by omega) hS.a0 rfl ?_
  refine g_iload_n (i := 1) (by decide +kernel) rfl ?_
  refine g_bipush (a := 9) (by decide +kernel) (by decide) ?_
  refine g_imul (by decide +kernel) ?_
  refine g_iload_n (i := 2) (by decide +kernel) rfl ?_
  refine g_iadd (by decide +kernel) ?_
  refine g_iald (j := 9 * k + w) (by decide +kernel) (by omega) hS.a7 (by omega) (by omega) (by decide) ?_
  refine g_retI (by decide +kernel) rfl (Or.inl rfl) ⟨by decide, by decide⟩ ?_
  exact ⟨rfl, rfl⟩
