/-- a number behind those that go -/
def zren (w : Nat → Bool) (x : Int) : Int := if x = -1 then -1 else x - (zcnt w x.toNat : Int)
/-- clip f comes to place t -/
def zCC (σ σ' : zSt) (b f t : Nat) (w : Nat → Bool) : Prop := σ' (b + 1) = zu (σ (b + 1)) t (σ (b + 1) f) ∧ σ' (b + 2) = zu (σ (b + 2)) t (zren w (σ (b + 2) f)) ∧ σ' (b + 3) = zu (σ (b + 3)) t (σ (b + 3) f) ∧ σ' (b + 4) = zu (σ (b + 4)) t (σ (b + 4) f) ∧ σ' (b + 5) = zu (σ (b + 5)) t (zren w (σ (b + 5) f)) ∧ σ' (b + 6) = zu (σ (b + 6)) t (σ (b + 6) f) ∧ (∀ j, σ' (b + 7) j = if 9 * t ≤ j ∧ j < 9 * t + 9 then σ (b + 7) (9 * f + (j - 9 * t)) else σ (b + 7) j) ∧ ∀ a, (a ≤ b ∨ b + 8 ≤ a) → σ' a = σ a
theorem c_Sh_copyClip {G : zG} {n : Nat} {σ : zSt} {b : Nat} {f t N : Nat} {w : Nat → Bool} (hn : 189 ≤ n) (hS : zSw SH b) (hg : zGood σ b) (hN : N ≤ 12) (hf : f < 12) (ht : t < 12) (h2 : -1 ≤ σ (b + 2) f ∧ σ (b + 2) f < N) (h5 : -1 ≤ σ (b + 5) f ∧ σ (b + 5) f < N) : Gm G y_Sh_copyClip m_Sh_copyClip 2 0 0 [vr G b, vi f, vi t, vi ((zbits w N : Nat) : Int)] n SH σ (zV n SH (fun σ' => zCC σ σ' b f t w)) := by
  refine g_enter (L := [(0, _), (1, _), (2, _), (3, _)]) (by decide) rfl rfl rfl (Nat.le_of_ble_eq_true rfl) (fun X => ?_)
  have hb := hS.1
  have hc := hg.1
  refine g_aload_n (i := 0) (by decide +kernel) rfl ?_
  refine g_getr f_Sh_9 (by decide +kernel) (by omega) hS.a0 rfl ?_
  refine g_iload_n (i := 2) (by decide +kernel) rfl ?_
  refine g_aload_n (i := 0) (by decide +kernel) rfl ?_
  refine g_getr f_Sh_9 (by decide +kernel) (by omega) hS.a0 rfl ?_
  refine g_iload_n (i := 1) (by decide +kernel) rfl ?_
  refine g_iald (by decide +kernel) (by omega) hS.a1 rfl (by omega) (by decide) ?_
  refine g_iast (by decide +kernel) (by omega) hS.a1 rfl (by omega) (by decide) ?_
  refine g_aload_n (i := 0) (by decide +kernel) rfl ?_
  refine g_getr f_Sh_15 (by decide +kernel) (by omega) hS.a0 rfl ?_
  refine g_iload_n (i := 2) (by decide +kernel) rfl ?_
  refine g_aload_n (i := 0) (by decide +kernel) rfl ?_
  refine g_getr f_Sh_15 (by decide +kernel) (by omega) hS.a0 rfl ?_
  refine g_iload_n (i := 1) (by decide +kernel) rfl ?_
  refine g_iald (by decide +kernel) (by omega) hS.a2 rfl (by omega) (by decide) ?_
  refine g_iload_n (i := 3) (by decide +kernel) rfl ?_
  refine g_cSI (st := [vi (t : Int), vr G (b + 2)]) (c_Sh_renumbered (x := σ (b + 2) f) (p := w) (N := N) hN h2) k_Sh_renumbered l_Sh_86 (by decide +kernel) rfl (by rw [zs_other (by omega)]; rfl) (Nat.le_of_ble_eq_true rfl) (by decide) ⟨by decide, by decide⟩ ?_
  rintro a σ1 ⟨rfl, hσ⟩
  obtain rfl := hσ.symm
  refine g_iast (by decide +kernel) (by omega) hS.a2 rfl (by omega) (by decide) ?_
  refine g_aload_n (i := 0) (by decide +kernel) rfl ?_
  refine g_getr f_Sh_18 (by decide +kernel) (by omega) hS.a0 rfl ?_
  refine g_iload_n (i := 2) (by decide +kernel) rfl ?_
  refine g_aload_n (i := 0) (by decide +kernel) rfl ?_
  refine g_getr f_Sh_18 (by decide +kernel) (by omega) hS.a0 rfl ?_
  refine g_iload_n (i := 1) (by decide +kernel) rfl ?_
  refine g_iald (by decide +kernel) (by omega) hS.a3 rfl (by omega) (by decide) ?_
  refine g_iast (by decide +kernel) (by omega) hS.a3 rfl (by omega) (by decide) ?_
  refine g_aload_n (i := 0) (by decide +kernel) rfl ?_
  refine g_iload_n (i := 2) (by decide +kernel) rfl ?_
  refine g_aload_n (i := 0) (by decide +kernel) rfl ?_
  refine g_getr f_Sh_21 (by decide +kernel) (by omega) hS.a0 rfl ?_
  refine g_iload_n (i := 1) (by decide +kernel) rfl ?_
  refine g_iald (by decide +kernel) (by omega) hS.a4 rfl (by omega) (by decide) ?_
  refine g_aload_n (i := 0) (by decide +kernel) rfl ?_
  refine g_getr f_Sh_24 (by decide +kernel) (by omega) hS.a0 rfl ?_
  refine g_iload_n (i := 1) (by decide +kernel) rfl ?_
  refine g_iald (by decide +kernel) (by omega) hS.a5 rfl (by omega) (by decide) ?_
  refine g_iload_n (i := 3) (by decide +kernel) rfl ?_
  refine g_cSI (st := [vi ((zs (zs (zs σ (b + 1) t (σ (b + 1) f)) (b + 2) t (zren w (σ (b + 2) f))) (b + 3) t (σ (b + 3) f)) (b + 4) f), vi (t : Int), vr G b]) (c_Sh_renumbered (x := σ (b + 5) f) (p := w) (N := N) hN h5) k_Sh_renumbered l_Sh_86 (by decide +kernel) rfl (by simp [zs_app, zren]) (Nat.le_of_ble_eq_true rfl) (by decide) ⟨by decide, by decide⟩ ?_
  rintro a σ1 ⟨rfl, hσ⟩
  obtain rfl := hσ.symm
  refine g_aload_n (i := 0) (by decide +kernel) rfl ?_
  refine g_getr f_Sh_27 (by decide +kernel) (by omega) hS.a0 rfl ?_
  refine g_iload_n (i := 1) (by decide +kernel) rfl ?_
  refine g_iald (by decide +kernel) (by omega) hS.a6 rfl (by omega) (by decide) ?_
  refine g_cVV (st := []) (c_Sh_putStart hn hS ht) k_Sh_putStart l_Sh_69 (by decide +kernel) (by omega) hS.a0 rfl rfl rfl (Nat.le_of_ble_eq_true rfl) (by decide) ⟨by decide, by decide⟩ ?_
  rintro σ1 hσ
  obtain rfl := hσ.symm
  refine g_aload_n (i := 0) (by decide +kernel) rfl ?_
  refine g_getr f_Sh_30 (by decide +kernel) (by omega) hS.a0 rfl ?_
  refine g_iload_n (i := 1) (by decide +kernel) rfl ?_
  refine g_bipush (a := 9) (by decide +kernel) (by decide) ?_
  refine g_imul (by decide +kernel) ?_
  refine g_aload_n (i := 0) (by decide +kernel) rfl ?_
  refine g_getr f_Sh_30 (by decide +kernel) (by omega) hS.a0 rfl ?_
  refine g_iload_n (i := 2) (by decide +kernel) rfl ?_
  refine g_bipush (a := 9) (by decide +kernel) (by decide) ?_
  refine g_imul (by decide +kernel) ?_
  refine g_bipush (a := 9) (by decide +kernel) (by decide) ?_
  refine g_copy (sp := 9 * f) (dp := 9 * t) (c := 9) ac_l (by decide +kernel) (by omega) (by omega) hS.a7 hS.a7 (by omega) (by omega) rfl (by omega) (by omega) ⟨by decide, by decide⟩ (by decide) (by decide) ?_
  refine g_retV (by decide +kernel) rfl ⟨by decide, by decide⟩ ?_
  refine ⟨?_, ?_, ?_, ?_, ?_, ?_, fun j => ?_, fun a ha => ?_⟩
  · rw [zcp_other (by omega)]; simp [zs_app, zren]
  · rw [zcp_other (by omega)]; simp [zs_app, zren]
  · rw [zcp_other (by omega)]; simp [zs_app, zren]
  · rw [zcp_other (by omega)]; simp [zs_app, zren]
  · rw [zcp_other (by omega)]; simp [zs_app, zren]
  · rw [zcp_other (by omega)]; simp [zs_app, zren]
  · rw [zcp_app, if_pos rfl]
    simp [zs_app]
  · rw [zcp_other (by omega), zs_other (by omega), zs_other (by omega), zs_other (by omega), zs_other (by omega), zs_other (by omega), zs_other (by omega)]
