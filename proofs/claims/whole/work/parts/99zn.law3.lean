/-! steps of the law -/
section STEPS
variable {G : zG} {X : zX} {nm : String} {b Ln i : Nat} {xs : Nat → Int32} {σ : zSt} {post : zPost}
theorem lb_status (h : zInv σ) (hs : zSc G X b Ln xs i) (kk : ∀ υ, zInv υ → Go G X (zLw nm) zKL 220 SH υ 1606 (zLL G b i) [] post) : Go G X (zLw nm) zKL 220 SH σ 232 (zLL G b i) [] post := by
  refine g_l1 (by decide +kernel) ?_
  refine g_lC (c_Nc_status (by omega)) k_Nc_status l_Lw_13 (by decide +kernel) rfl rfl rfl (by decide) ?_
  rintro a τ ⟨ea, et⟩
  obtain rfl := et.symm
  refine g_l2 (by decide +kernel) ?_
  refine g_lM (c_Md_status (by omega)) k_Md_status l_Lw_17 (by decide +kernel) rfl rfl rfl (by decide) ?_
  rintro a' υ ⟨ea', et'⟩
  obtain rfl := et'.symm
  refine g_lE (off := 1366) (by decide +kernel) (by decide) ?_ (kk _ h.th)
  rw [ea, ea', h.2.1.1]
theorem lb_feed (h : zInv σ) (hs : zSc G X b Ln xs i) (kk : ∀ υ, zInv υ → Go G X (zLw nm) zKL 220 SH υ 1606 (zLL G b i) [] post) : Go G X (zLw nm) zKL 220 SH σ 245 (zLL G b i) [] post := by
  refine g_l1 (by decide +kernel) ?_
  refine g_arg (k := 1) hs (by decide) (by decide +kernel) ?_
  refine g_arg (k := 2) hs (by decide) (by decide +kernel) ?_
  refine g_arg (k := 3) hs (by decide) (by decide +kernel) ?_
  refine g_arg (k := 4) hs (by decide) (by decide +kernel) ?_
  refine g_arg (k := 5) hs (by decide) (by decide +kernel) ?_
  refine g_lC (c_Nc_feed (by omega) (zr_x _) (zr_x _) (zr_x _) (zr_x _) (zr_x _) h.2.2.2.2.1.2.1) k_Nc_feed l_Lw_18 (by decide +kernel) rfl rfl rfl (by decide) ?_
  rintro a τ hq
  refine g_l2 (by decide +kernel) ?_
  refine g_arg (k := 1) hs (by decide) (by decide +kernel) ?_
  refine g_arg (k := 2) hs (by decide) (by decide +kernel) ?_
  refine g_arg (k := 3) hs (by decide) (by decide +kernel) ?_
  refine g_arg (k := 4) hs (by decide) (by decide +kernel) ?_
  refine g_arg (k := 5) hs (by decide) (by decide +kernel) ?_
  refine g_lM (c_Md_feed (by omega) (zr_x _) (zr_x _) (zr_x _) (zr_x _) (zr_x _) (by rw [zFd_o hq 189 (by decide), ← h.2.2.2.2.1.1]; exact h.2.2.2.2.1.2.1)) k_Md_feed l_Lw_22 (by decide +kernel) rfl rfl rfl (by decide) ?_
  rintro a' υ hm
  have key : a = a' ∧ zInv υ := h.feed hq hm
  exact g_lE (off := 1303) (by decide +kernel) (by decide) key.1 (kk υ key.2)
theorem lb_load (h : zInv σ) (hs : zSc G X b Ln xs i) (kk : ∀ υ, zInv υ → Go G X (zLw nm) zKL 220 SH υ 1606 (zLL G b i) [] post) : Go G X (zLw nm) zKL 220 SH σ 308 (zLL G b i) [] post := by
  refine g_l1 (by decide +kernel) ?_
  refine g_arg (k := 1) hs (by decide) (by decide +kernel) ?_
  refine g_lC (c_Nc_load (by omega) h.cl (zr_x _) h.2.2.2.2.1.2.1 h.2.2.2.2.1.2.2.1) k_Nc_load l_Lw_23 (by decide +kernel) rfl rfl rfl (by decide) ?_
  rintro a τ hq
  refine g_l2 (by decide +kernel) ?_
  refine g_arg (k := 1) hs (by decide) (by decide +kernel) ?_
  refine g_lM (c_Md_load (b := σ 178) (A := zA00 (σ 178) (xs (i + 1)).toInt.toNat σ) (S := zSv σ 1) (by omega) h.fine (h.mc (zLd_o hq 190 (by decide))) (by rw [zLd_o hq 189 (by decide)]; exact h.kp) (zr_x _) (by rw [zLd_o hq 189 (by decide), ← h.2.2.2.2.1.1]; exact h.2.2.2.2.1.2.1) (by rw [zLd_o hq 196 (by decide)]; exact h.2.2.2.2.1.2.2.2) (by rw [zLd_o hq 197 (by decide)]; exact h.2.2.2.2.2.2) (zA00.a0 h.cl.2.2.2.1)) k_Md_load l_Lw_27 (by decide +kernel) rfl rfl rfl (by decide) ?_
  rintro a' υ hm
  have key : a = a' ∧ zInv υ := h.load hq hm
  exact g_lE (off := 1280) (by decide +kernel) (by decide) key.1 (kk υ key.2)
theorem lb_fault (h : zInv σ) (hs : zSc G X b Ln xs i) (kk : ∀ υ, zInv υ → Go G X (zLw nm) zKL 220 SH υ 1606 (zLL G b i) [] post) : Go G X (zLw nm) zKL 220 SH σ 331 (zLL G b i) [] post := by
  refine g_l1 (by decide +kernel) ?_
  refine g_arg (k := 1) hs (by decide) (by decide +kernel) ?_
  refine g_lC (c_Nc_fault (by omega) (zr_x _)) k_Nc_fault l_Lw_28 (by decide +kernel) rfl rfl rfl (by decide) ?_
  rintro a τ ⟨ea, et⟩
  obtain rfl := et.symm
  refine g_l2 (by decide +kernel) ?_
  refine g_arg (k := 1) hs (by decide) (by decide +kernel) ?_
  refine g_lM (c_Md_fault (by omega) (zr_x _)) k_Md_fault l_Lw_31 (by decide +kernel) rfl rfl rfl (by decide) ?_
  rintro a' υ ⟨ea', et'⟩
  obtain rfl := et'.symm
  refine g_lE (off := 1257) (by decide +kernel) (by decide) ?_ (kk _ h.th)
  rw [ea, ea', h.2.1.2.1, h.2.1.2.2]
end STEPS
