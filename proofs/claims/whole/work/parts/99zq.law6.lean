/-! steps of the law -/
section STEPS
variable {G : zG} {X : zX} {nm : String} {b Ln i : Nat} {xs : Nat → Int32} {σ : zSt} {post : zPost}
theorem lb_strength (h : zInv σ) (hs : zSc G X b Ln xs i) (kk : ∀ υ, zInv υ → Go G X (zLw nm) zKL 220 SH υ 1606 (zLL G b i) [] post) : Go G X (zLw nm) zKL 220 SH σ 934 (zLL G b i) [] post := by
  refine g_l1 (by decide +kernel) ?_
  refine g_arg (k := 1) hs (by decide) (by decide +kernel) ?_
  refine g_arg (k := 2) hs (by decide) (by decide +kernel) ?_
  refine g_lC (c_Nc_strength (by omega) h.cl.1 h.cl.2.1 (zr_x _) (zr_x _)) k_Nc_strength l_Lw_108 (by decide +kernel) rfl rfl rfl (by decide) ?_
  rintro a τ hq
  refine g_l2 (by decide +kernel) ?_
  refine g_arg (k := 1) hs (by decide) (by decide +kernel) ?_
  refine g_arg (k := 2) hs (by decide) (by decide +kernel) ?_
  refine g_lM (c_Md_strength (S := zSv σ 1) (by omega) h.mz (h.mc (hq.o 190 (by decide))) (zr_x _) (zr_x _)) k_Md_strength l_Lw_111 (by decide +kernel) rfl rfl rfl (by decide) ?_
  rintro a' υ hm
  have key : a = a' ∧ zInv υ := h.ask2 hq hm rfl (fun _ => rfl)
  exact g_lE (off := 644) (by decide +kernel) (by decide) key.1 (kk υ key.2)
theorem lb_share (h : zInv σ) (hs : zSc G X b Ln xs i) (kk : ∀ υ, zInv υ → Go G X (zLw nm) zKL 220 SH υ 1606 (zLL G b i) [] post) : Go G X (zLw nm) zKL 220 SH σ 967 (zLL G b i) [] post := by
  refine g_l1 (by decide +kernel) ?_
  refine g_arg (k := 1) hs (by decide) (by decide +kernel) ?_
  refine g_arg (k := 2) hs (by decide) (by decide +kernel) ?_
  refine g_lC (c_Nc_share (by omega) h.cl.1 h.cl.2.1 (zr_x _) (zr_x _)) k_Nc_share l_Lw_112 (by decide +kernel) rfl rfl rfl (by decide) ?_
  rintro a τ hq
  refine g_l2 (by decide +kernel) ?_
  refine g_arg (k := 1) hs (by decide) (by decide +kernel) ?_
  refine g_arg (k := 2) hs (by decide) (by decide +kernel) ?_
  refine g_lM (c_Md_share (S := zSv σ 1) (by omega) h.mz (h.mc (hq.o 190 (by decide))) (zr_x _) (zr_x _)) k_Md_share l_Lw_115 (by decide +kernel) rfl rfl rfl (by decide) ?_
  rintro a' υ hm
  have key : a = a' ∧ zInv υ := h.ask2 hq hm rfl (fun _ => rfl)
  exact g_lE (off := 611) (by decide +kernel) (by decide) key.1 (kk υ key.2)
theorem lb_dark (h : zInv σ) (hs : zSc G X b Ln xs i) (kk : ∀ υ, zInv υ → Go G X (zLw nm) zKL 220 SH υ 1606 (zLL G b i) [] post) : Go G X (zLw nm) zKL 220 SH σ 1000 (zLL G b i) [] post := by
  refine g_l1 (by decide +kernel) ?_
  refine g_arg (k := 1) hs (by decide) (by decide +kernel) ?_
  refine g_lC (c_Nc_dark (by omega) h.cl.1 h.cl.2.1 (zr_x _)) k_Nc_dark l_Lw_116 (by decide +kernel) rfl rfl rfl (by decide) ?_
  rintro a τ hq
  refine g_l2 (by decide +kernel) ?_
  refine g_arg (k := 1) hs (by decide) (by decide +kernel) ?_
  refine g_lM (c_Md_dark (S := zSv σ 1) (by omega) h.mz (h.mc (hq.o 190 (by decide))) (zr_x _)) k_Md_dark l_Lw_119 (by decide +kernel) rfl rfl rfl (by decide) ?_
  rintro a' υ hm
  have key : a = a' ∧ zInv υ := h.ask2 hq hm rfl (fun _ => rfl)
  exact g_lE (off := 588) (by decide +kernel) (by decide) key.1 (kk υ key.2)
theorem lb_top (h : zInv σ) (hs : zSc G X b Ln xs i) (kk : ∀ υ, zInv υ → Go G X (zLw nm) zKL 220 SH υ 1606 (zLL G b i) [] post) : Go G X (zLw nm) zKL 220 SH σ 1023 (zLL G b i) [] post := by
  refine g_l1 (by decide +kernel) ?_
  refine g_arg (k := 1) hs (by decide) (by decide +kernel) ?_
  refine g_lC (c_Nc_top (by omega) h.cl.1 h.cl.2.1 (zr_x _)) k_Nc_top l_Lw_120 (by decide +kernel) rfl rfl rfl (by decide) ?_
  rintro a τ hq
  refine g_l2 (by decide +kernel) ?_
  refine g_arg (k := 1) hs (by decide) (by decide +kernel) ?_
  refine g_lM (c_Md_top (S := zSv σ 1) (by omega) h.mz (h.mc (hq.o 190 (by decide))) (zr_x _)) k_Md_top l_Lw_123 (by decide +kernel) rfl rfl rfl (by decide) ?_
  rintro a' υ hm
  have key : a = a' ∧ zInv υ := h.ask2 hq hm rfl (fun _ => rfl)
  exact g_lE (off := 565) (by decide +kernel) (by decide) key.1 (kk υ key.2)
theorem lb_seen (h : zInv σ) (hs : zSc G X b Ln xs i) (kk : ∀ υ, zInv υ → Go G X (zLw nm) zKL 220 SH υ 1606 (zLL G b i) [] post) : Go G X (zLw nm) zKL 220 SH σ 1046 (zLL G b i) [] post := by
  refine g_l1 (by decide +kernel) ?_
  refine g_arg (k := 1) hs (by decide) (by decide +kernel) ?_
  refine g_lC (c_Nc_seen (by omega) h.cl.1 h.cl.2.1 (zr_x _)) k_Nc_seen l_Lw_124 (by decide +kernel) rfl rfl rfl (by decide) ?_
  rintro a τ hq
  refine g_l2 (by decide +kernel) ?_
  refine g_arg (k := 1) hs (by decide) (by decide +kernel) ?_
  refine g_lM (c_Md_seen (S := zSv σ 1) (by omega) h.mz (h.mc (hq.o 190 (by decide))) (zr_x _)) k_Md_seen l_Lw_127 (by decide +kernel) rfl rfl rfl (by decide) ?_
  rintro a' υ hm
  have key : a = a' ∧ zInv υ := h.ask2 hq hm rfl (fun _ => rfl)
  exact g_lE (off := 542) (by decide +kernel) (by decide) key.1 (kk υ key.2)
theorem lb_brightest (h : zInv σ) (hs : zSc G X b Ln xs i) (kk : ∀ υ, zInv υ → Go G X (zLw nm) zKL 220 SH υ 1606 (zLL G b i) [] post) : Go G X (zLw nm) zKL 220 SH σ 1069 (zLL G b i) [] post := by
  refine g_l1 (by decide +kernel) ?_
  refine g_arg (k := 1) hs (by decide) (by decide +kernel) ?_
  refine g_lC (c_Nc_brightest (by omega) h.cl.1 h.cl.2.1 (zr_x _)) k_Nc_brightest l_Lw_128 (by decide +kernel) rfl rfl rfl (by decide) ?_
  rintro a τ hq
  refine g_l2 (by decide +kernel) ?_
  refine g_arg (k := 1) hs (by decide) (by decide +kernel) ?_
  refine g_lM (c_Md_brightest (S := zSv σ 1) (by omega) h.mz (h.mc (hq.o 190 (by decide))) (zr_x _)) k_Md_brightest l_Lw_131 (by decide +kernel) rfl rfl rfl (by decide) ?_
  rintro a' υ hm
  have key : a = a' ∧ zInv υ := h.ask2 hq hm rfl (fun _ => rfl)
  exact g_lE (off := 519) (by decide +kernel) (by decide) key.1 (kk υ key.2)
theorem lb_hidden (h : zInv σ) (hs : zSc G X b Ln xs i) (kk : ∀ υ, zInv υ → Go G X (zLw nm) zKL 220 SH υ 1606 (zLL G b i) [] post) : Go G X (zLw nm) zKL 220 SH σ 1092 (zLL G b i) [] post := by
  refine g_l1 (by decide +kernel) ?_
  refine g_lC (c_Nc_hidden (by omega) h.cl.1 h.cl.2.1) k_Nc_hidden l_Lw_132 (by decide +kernel) rfl rfl rfl (by decide) ?_
  rintro a τ hq
  refine g_l2 (by decide +kernel) ?_
  refine g_lM (c_Md_hidden (S := zSv σ 1) (by omega) h.mz (h.mc (hq.o 190 (by decide)))) k_Md_hidden l_Lw_135 (by decide +kernel) rfl rfl rfl (by decide) ?_
  rintro a' υ hm
  have key : a = a' ∧ zInv υ := h.ask2 hq hm rfl (fun _ => rfl)
  exact g_lE (off := 506) (by decide +kernel) (by decide) key.1 (kk υ key.2)
theorem lb_pieces (h : zInv σ) (hs : zSc G X b Ln xs i) (kk : ∀ υ, zInv υ → Go G X (zLw nm) zKL 220 SH υ 1606 (zLL G b i) [] post) : Go G X (zLw nm) zKL 220 SH σ 1105 (zLL G b i) [] post := by
  refine g_l1 (by decide +kernel) ?_
  refine g_arg (k := 1) hs (by decide) (by decide +kernel) ?_
  refine g_lC (c_Nc_pieces (by omega) h.cl.1 h.cl.2.1 (zr_x _)) k_Nc_pieces l_Lw_136 (by decide +kernel) rfl rfl rfl (by decide) ?_
  rintro a τ hq
  refine g_l2 (by decide +kernel) ?_
  refine g_arg (k := 1) hs (by decide) (by decide +kernel) ?_
  refine g_lM (c_Md_pieces (x := σ 93) (S := zSv σ 1) (by omega) h.mz (h.mc (hq.o 190 (by decide))) (zr_x _)) k_Md_pieces l_Lw_139 (by decide +kernel) rfl rfl rfl (by decide) ?_
  rintro a' υ hm
  have key : a = a' ∧ zInv υ := h.ask2 hq hm rfl (fun _ => rfl)
  exact g_lE (off := 483) (by decide +kernel) (by decide) key.1 (kk υ key.2)
theorem lb_piece (h : zInv σ) (hs : zSc G X b Ln xs i) (kk : ∀ υ, zInv υ → Go G X (zLw nm) zKL 220 SH υ 1606 (zLL G b i) [] post) : Go G X (zLw nm) zKL 220 SH σ 1128 (zLL G b i) [] post := by
  refine g_l1 (by decide +kernel) ?_
  refine g_arg (k := 1) hs (by decide) (by decide +kernel) ?_
  refine g_arg (k := 2) hs (by decide) (by decide +kernel) ?_
  refine g_arg (k := 3) hs (by decide) (by decide +kernel) ?_
  refine g_lC (c_Nc_piece (by omega) h.cl.1 h.cl.2.1 (zr_x _) (zr_x _) (zr_x _)) k_Nc_piece l_Lw_140 (by decide +kernel) rfl rfl rfl (by decide) ?_
  rintro a τ hq
  refine g_l2 (by decide +kernel) ?_
  refine g_arg (k := 1) hs (by decide) (by decide +kernel) ?_
  refine g_arg (k := 2) hs (by decide) (by decide +kernel) ?_
  refine g_arg (k := 3) hs (by decide) (by decide +kernel) ?_
  refine g_lM (c_Md_piece (x := σ 93) (S := zSv σ 1) (by omega) h.mz (h.mc (hq.o 190 (by decide))) (zr_x _) (zr_x _) (zr_x _)) k_Md_piece l_Lw_143 (by decide +kernel) rfl rfl rfl (by decide) ?_
  rintro a' υ hm
  have key : a = a' ∧ zInv υ := h.ask2 hq hm (zwp_3 (S := zSv σ 1) (x := σ 93) (c := (xs (i + 1)).toInt) (i := (xs (i + 2)).toInt) (w := (xs (i + 3)).toInt)) (fun _ => rfl)
  exact g_lE (off := 440) (by decide +kernel) (by decide) key.1 (kk υ key.2)
theorem lb_reach (h : zInv σ) (hs : zSc G X b Ln xs i) (kk : ∀ υ, zInv υ → Go G X (zLw nm) zKL 220 SH υ 1606 (zLL G b i) [] post) : Go G X (zLw nm) zKL 220 SH σ 1171 (zLL G b i) [] post := by
  refine g_l1 (by decide +kernel) ?_
  refine g_arg (k := 1) hs (by decide) (by decide +kernel) ?_
  refine g_arg (k := 2) hs (by decide) (by decide +kernel) ?_
  refine g_arg (k := 3) hs (by decide) (by decide +kernel) ?_
  refine g_lC (c_Nc_reach (by omega) h.cl.1 h.cl.2.1 (zr_x _) (zr_x _) (zr_x _)) k_Nc_reach l_Lw_144 (by decide +kernel) rfl rfl rfl (by decide) ?_
  rintro a τ hq
  refine g_l2 (by decide +kernel) ?_
  refine g_arg (k := 1) hs (by decide) (by decide +kernel) ?_
  refine g_arg (k := 2) hs (by decide) (by decide +kernel) ?_
  refine g_arg (k := 3) hs (by decide) (by decide +kernel) ?_
  refine g_lM (c_Md_reach (x := σ 93) (S := zSv σ 1) (by omega) h.mz (h.mc (hq.o 190 (by decide))) (zr_x _) (zr_x _) (zr_x _)) k_Md_reach l_Lw_147 (by decide +kernel) rfl rfl rfl (by decide) ?_
  rintro a' υ hm
  have key : a = a' ∧ zInv υ := h.ask2 hq hm (zwp_r (S := zSv σ 1) (x := σ 93) (c := (xs (i + 1)).toInt) (i := (xs (i + 2)).toInt) (w := (xs (i + 3)).toInt)) (fun _ => rfl)
  exact g_lE (off := 397) (by decide +kernel) (by decide) key.1 (kk υ key.2)
end STEPS
