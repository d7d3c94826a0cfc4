/-! steps of the law -/
section STEPS
variable {G : zG} {X : zX} {nm : String} {b Ln i : Nat} {xs : Nat → Int32} {σ : zSt} {post : zPost}
theorem lb_add (h : zInv σ) (hs : zSc G X b Ln xs i) (kk : ∀ υ, zInv υ → Go G X (zLw nm) zKL 220 SH υ 1606 (zLL G b i) [] post) : Go G X (zLw nm) zKL 220 SH σ 354 (zLL G b i) [] post := by
  refine g_l1 (by decide +kernel) ?_
  refine g_arg (k := 1) hs (by decide) (by decide +kernel) ?_
  refine g_arg (k := 2) hs (by decide) (by decide +kernel) ?_
  refine g_lC (c_Nc_add (by omega) h.cl (zr_x _) (zr_x _)) k_Nc_add l_Lw_32 (by decide +kernel) rfl rfl rfl (by decide) ?_
  rintro a τ hq
  refine g_l2 (by decide +kernel) ?_
  refine g_arg (k := 1) hs (by decide) (by decide +kernel) ?_
  refine g_arg (k := 2) hs (by decide) (by decide +kernel) ?_
  refine g_lM (c_Md_add (S := zSv σ 1) (by omega) h.fine (h.mc (hq.o 190 (by decide))) (by rw [hq.o 189 (by decide)]; exact h.kp) (zr_x _) (zr_x _)) k_Md_add l_Lw_36 (by decide +kernel) rfl rfl rfl (by decide) ?_
  rintro a' υ hm
  have key : a = a' ∧ zInv υ := h.act hq hm (zfine_add h.fine)
  exact g_lE (off := 1224) (by decide +kernel) (by decide) key.1 (kk υ key.2)
theorem lb_lose (h : zInv σ) (hs : zSc G X b Ln xs i) (kk : ∀ υ, zInv υ → Go G X (zLw nm) zKL 220 SH υ 1606 (zLL G b i) [] post) : Go G X (zLw nm) zKL 220 SH σ 387 (zLL G b i) [] post := by
  refine g_l1 (by decide +kernel) ?_
  refine g_arg (k := 1) hs (by decide) (by decide +kernel) ?_
  refine g_lC (c_Nc_lose (by omega) h.cl (zr_x _)) k_Nc_lose l_Lw_37 (by decide +kernel) rfl rfl rfl (by decide) ?_
  rintro a τ ⟨S', hS', hq⟩
  refine g_l2 (by decide +kernel) ?_
  refine g_arg (k := 1) hs (by decide) (by decide +kernel) ?_
  refine g_lM (c_Md_lose (S := zSv σ 1) (by omega) h.fine (h.mc (hq.o 190 (by decide))) (by rw [hq.o 189 (by decide)]; exact h.kp) (zr_x _)) k_Md_lose l_Lw_40 (by decide +kernel) rfl rfl rfl (by decide) ?_
  rintro a' υ hm
  have key : a = a' ∧ zInv υ := h.act hq (hm S' hS') (fun e => (hS' e).2)
  exact g_lE (off := 1201) (by decide +kernel) (by decide) key.1 (kk υ key.2)
theorem lb_move (h : zInv σ) (hs : zSc G X b Ln xs i) (kk : ∀ υ, zInv υ → Go G X (zLw nm) zKL 220 SH υ 1606 (zLL G b i) [] post) : Go G X (zLw nm) zKL 220 SH σ 410 (zLL G b i) [] post := by
  refine g_l1 (by decide +kernel) ?_
  refine g_arg (k := 1) hs (by decide) (by decide +kernel) ?_
  refine g_arg (k := 2) hs (by decide) (by decide +kernel) ?_
  refine g_lC (c_Nc_move (by omega) h.cl (zr_x _) (zr_x _)) k_Nc_move l_Lw_41 (by decide +kernel) rfl rfl rfl (by decide) ?_
  rintro a τ hq
  refine g_l2 (by decide +kernel) ?_
  refine g_arg (k := 1) hs (by decide) (by decide +kernel) ?_
  refine g_arg (k := 2) hs (by decide) (by decide +kernel) ?_
  refine g_lM (c_Md_move (S := zSv σ 1) (by omega) h.fine (h.mc (hq.o 190 (by decide))) (by rw [hq.o 189 (by decide)]; exact h.kp) (zr_x _) (zr_x _)) k_Md_move l_Lw_44 (by decide +kernel) rfl rfl rfl (by decide) ?_
  rintro a' υ hm
  have key : a = a' ∧ zInv υ := h.act hq hm (zfine_move h.fine)
  exact g_lE (off := 1168) (by decide +kernel) (by decide) key.1 (kk υ key.2)
theorem lb_mark (h : zInv σ) (hs : zSc G X b Ln xs i) (kk : ∀ υ, zInv υ → Go G X (zLw nm) zKL 220 SH υ 1606 (zLL G b i) [] post) : Go G X (zLw nm) zKL 220 SH σ 443 (zLL G b i) [] post := by
  refine g_l1 (by decide +kernel) ?_
  refine g_arg (k := 1) hs (by decide) (by decide +kernel) ?_
  refine g_arg (k := 2) hs (by decide) (by decide +kernel) ?_
  refine g_arg (k := 3) hs (by decide) (by decide +kernel) ?_
  refine g_lC (c_Nc_mark (by omega) h.cl (zr_x _) (zr_x _) (zr_x _)) k_Nc_mark l_Lw_45 (by decide +kernel) rfl rfl rfl (by decide) ?_
  rintro a τ hq
  refine g_l2 (by decide +kernel) ?_
  refine g_arg (k := 1) hs (by decide) (by decide +kernel) ?_
  refine g_arg (k := 2) hs (by decide) (by decide +kernel) ?_
  refine g_arg (k := 3) hs (by decide) (by decide +kernel) ?_
  refine g_lM (c_Md_mark (S := zSv σ 1) (by omega) h.fine (h.mc (hq.o 190 (by decide))) (by rw [hq.o 189 (by decide)]; exact h.kp) (zr_x _) (zr_x _) (zr_x _)) k_Md_mark l_Lw_49 (by decide +kernel) rfl rfl rfl (by decide) ?_
  rintro a' υ hm
  have key : a = a' ∧ zInv υ := h.act hq hm (zfine_mark h.fine)
  exact g_lE (off := 1125) (by decide +kernel) (by decide) key.1 (kk υ key.2)
theorem lb_start (h : zInv σ) (hs : zSc G X b Ln xs i) (kk : ∀ υ, zInv υ → Go G X (zLw nm) zKL 220 SH υ 1606 (zLL G b i) [] post) : Go G X (zLw nm) zKL 220 SH σ 486 (zLL G b i) [] post := by
  refine g_l1 (by decide +kernel) ?_
  refine g_arg (k := 1) hs (by decide) (by decide +kernel) ?_
  refine g_arg (k := 2) hs (by decide) (by decide +kernel) ?_
  refine g_arg (k := 3) hs (by decide) (by decide +kernel) ?_
  refine g_arg (k := 4) hs (by decide) (by decide +kernel) ?_
  refine g_lC (c_Nc_start (by omega) h.cl (zr_x _) (zr_x _) (zr_x _) (zr_x _)) k_Nc_start l_Lw_50 (by decide +kernel) rfl rfl rfl (by decide) ?_
  rintro a τ hq
  refine g_l2 (by decide +kernel) ?_
  refine g_arg (k := 1) hs (by decide) (by decide +kernel) ?_
  refine g_arg (k := 2) hs (by decide) (by decide +kernel) ?_
  refine g_arg (k := 3) hs (by decide) (by decide +kernel) ?_
  refine g_arg (k := 4) hs (by decide) (by decide +kernel) ?_
  refine g_lM (c_Md_start (S := zSv σ 1) (by omega) h.fine (h.mc (hq.o 190 (by decide))) (by rw [hq.o 189 (by decide)]; exact h.kp) (zr_x _) (zr_x _) (zr_x _) (zr_x _)) k_Md_start l_Lw_54 (by decide +kernel) rfl rfl rfl (by decide) ?_
  rintro a' υ hm
  have key : a = a' ∧ zInv υ := h.act hq hm (zfine_start h.fine)
  exact g_lE (off := 1072) (by decide +kernel) (by decide) key.1 (kk υ key.2)
theorem lb_press (h : zInv σ) (hs : zSc G X b Ln xs i) (kk : ∀ υ, zInv υ → Go G X (zLw nm) zKL 220 SH υ 1606 (zLL G b i) [] post) : Go G X (zLw nm) zKL 220 SH σ 539 (zLL G b i) [] post := by
  refine g_l1 (by decide +kernel) ?_
  refine g_arg (k := 1) hs (by decide) (by decide +kernel) ?_
  refine g_arg (k := 2) hs (by decide) (by decide +kernel) ?_
  refine g_lC (c_Nc_press (by omega) h.cl (zr_x _) (zr_x _)) k_Nc_press l_Lw_55 (by decide +kernel) rfl rfl rfl (by decide) ?_
  rintro a τ hq
  refine g_l2 (by decide +kernel) ?_
  refine g_arg (k := 1) hs (by decide) (by decide +kernel) ?_
  refine g_arg (k := 2) hs (by decide) (by decide +kernel) ?_
  refine g_lM (c_Md_press (S := zSv σ 1) (by omega) h.fine (h.mc (hq.o 190 (by decide))) (by rw [hq.o 189 (by decide)]; exact h.kp) (zr_x _) (zr_x _)) k_Md_press l_Lw_58 (by decide +kernel) rfl rfl rfl (by decide) ?_
  rintro a' υ hm
  have key : a = a' ∧ zInv υ := h.act hq hm (zfine_press h.fine)
  exact g_lE (off := 1039) (by decide +kernel) (by decide) key.1 (kk υ key.2)
theorem lb_unpress (h : zInv σ) (hs : zSc G X b Ln xs i) (kk : ∀ υ, zInv υ → Go G X (zLw nm) zKL 220 SH υ 1606 (zLL G b i) [] post) : Go G X (zLw nm) zKL 220 SH σ 572 (zLL G b i) [] post := by
  refine g_l1 (by decide +kernel) ?_
  refine g_arg (k := 1) hs (by decide) (by decide +kernel) ?_
  refine g_lC (c_Nc_unpress (by omega) h.cl (zr_x _)) k_Nc_unpress l_Lw_59 (by decide +kernel) rfl rfl rfl (by decide) ?_
  rintro a τ hq
  refine g_l2 (by decide +kernel) ?_
  refine g_arg (k := 1) hs (by decide) (by decide +kernel) ?_
  refine g_lM (c_Md_unpress (S := zSv σ 1) (by omega) h.fine (h.mc (hq.o 190 (by decide))) (by rw [hq.o 189 (by decide)]; exact h.kp) (zr_x _)) k_Md_unpress l_Lw_62 (by decide +kernel) rfl rfl rfl (by decide) ?_
  rintro a' υ hm
  have key : a = a' ∧ zInv υ := h.act hq hm (zfine_unpress h.fine)
  exact g_lE (off := 1016) (by decide +kernel) (by decide) key.1 (kk υ key.2)
theorem lb_undo (h : zInv σ) (hs : zSc G X b Ln xs i) (kk : ∀ υ, zInv υ → Go G X (zLw nm) zKL 220 SH υ 1606 (zLL G b i) [] post) : Go G X (zLw nm) zKL 220 SH σ 595 (zLL G b i) [] post := by
  have hK0 : σ 95 2 ≠ 0 → zFin (zSv σ (97 + 10 * ((σ 95 1 + 7) % 8).toNat)) := fun h0 => by
    have k := h.cl.2.2.2.2.2
    have z := (h.2.2.2.2.2.1.2 1 (by omega) (by omega)).1.1
    have e : zKpt σ 1 = 97 + 10 * ((σ 95 1 + 7) % 8).toNat := by unfold zKpt; omega
    rw [e] at z
    exact z
  refine g_l1 (by decide +kernel) ?_
  refine g_lC (c_Nc_undo (by omega) h.cl hK0) k_Nc_undo l_Lw_63 (by decide +kernel) rfl rfl rfl (by decide) ?_
  rintro a τ hq
  refine g_l2 (by decide +kernel) ?_
  refine g_lM (c_Md_undo (S := zSv σ 1) (by omega) h.fine (h.mc (zUd_o hq 190 (by decide))) (by rw [zUd_o hq 189 (by decide)]; exact h.kp)) k_Md_undo l_Lw_66 (by decide +kernel) rfl rfl rfl (by decide) ?_
  rintro a' υ hm
  have key : a = a' ∧ zInv υ := h.undo hq hm
  exact g_lE (off := 1003) (by decide +kernel) (by decide) key.1 (kk υ key.2)
end STEPS
