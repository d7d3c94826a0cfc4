/-! steps of the law -/
section STEPS
variable {G : zG} {X : zX} {nm : String} {b Ln i : Nat} {xs : Nat → Int32} {σ : zSt} {post : zPost}
theorem lb_spans (h : zInv σ) (hs : zSc G X b Ln xs i) (kk : ∀ υ, zInv υ → Go G X (zLw nm) zKL 220 SH υ 1606 (zLL G b i) [] post) : Go G X (zLw nm) zKL 220 SH σ 1214 (zLL G b i) [] post := by
  refine g_l1 (by decide +kernel) ?_
  refine g_arg (k := 1) hs (by decide) (by decide +kernel) ?_
  refine g_lC (c_Nc_spans (by omega) h.cl.1 h.cl.2.1 (zr_x _)) k_Nc_spans l_Lw_148 (by decide +kernel) rfl rfl rfl (by decide) ?_
  rintro a τ hq
  refine g_l2 (by decide +kernel) ?_
  refine g_arg (k := 1) hs (by decide) (by decide +kernel) ?_
  refine g_lM (c_Md_spans (x := σ 93) (S := zSv σ 1) (by omega) h.mz (h.mc (hq.o 190 (by decide))) (zr_x _)) k_Md_spans l_Lw_151 (by decide +kernel) rfl rfl rfl (by decide) ?_
  rintro a' υ hm
  have key : a = a' ∧ zInv υ := h.ask2 hq hm rfl (fun _ => rfl)
  exact g_lE (off := 374) (by decide +kernel) (by decide) key.1 (kk υ key.2)
theorem lb_span (h : zInv σ) (hs : zSc G X b Ln xs i) (kk : ∀ υ, zInv υ → Go G X (zLw nm) zKL 220 SH υ 1606 (zLL G b i) [] post) : Go G X (zLw nm) zKL 220 SH σ 1237 (zLL G b i) [] post := by
  refine g_l1 (by decide +kernel) ?_
  refine g_arg (k := 1) hs (by decide) (by decide +kernel) ?_
  refine g_arg (k := 2) hs (by decide) (by decide +kernel) ?_
  refine g_arg (k := 3) hs (by decide) (by decide +kernel) ?_
  refine g_lC (c_Nc_span (by omega) h.cl.1 h.cl.2.1 (zr_x _) (zr_x _) (zr_x _)) k_Nc_span l_Lw_152 (by decide +kernel) rfl rfl rfl (by decide) ?_
  rintro a τ hq
  refine g_l2 (by decide +kernel) ?_
  refine g_arg (k := 1) hs (by decide) (by decide +kernel) ?_
  refine g_arg (k := 2) hs (by decide) (by decide +kernel) ?_
  refine g_arg (k := 3) hs (by decide) (by decide +kernel) ?_
  refine g_lM (c_Md_span (x := σ 93) (S := zSv σ 1) (by omega) h.mz (h.mc (hq.o 190 (by decide))) (zr_x _) (zr_x _) (zr_x _)) k_Md_span l_Lw_155 (by decide +kernel) rfl rfl rfl (by decide) ?_
  rintro a' υ hm
  have key : a = a' ∧ zInv υ := h.ask2 hq hm rfl (fun _ => rfl)
  exact g_lE (off := 331) (by decide +kernel) (by decide) key.1 (kk υ key.2)
theorem lb_ticks (h : zInv σ) (hs : zSc G X b Ln xs i) (kk : ∀ υ, zInv υ → Go G X (zLw nm) zKL 220 SH υ 1606 (zLL G b i) [] post) : Go G X (zLw nm) zKL 220 SH σ 1280 (zLL G b i) [] post := by
  refine g_l1 (by decide +kernel) ?_
  refine g_arg (k := 1) hs (by decide) (by decide +kernel) ?_
  refine g_lC (c_Nc_ticks (by omega) h.cl.1 h.cl.2.1 (zr_x _)) k_Nc_ticks l_Lw_156 (by decide +kernel) rfl rfl rfl (by decide) ?_
  rintro a τ hq
  refine g_l2 (by decide +kernel) ?_
  refine g_arg (k := 1) hs (by decide) (by decide +kernel) ?_
  refine g_lM (c_Md_ticks (S := zSv σ 1) (by omega) h.mz (h.mc (hq.o 190 (by decide))) (zr_x _)) k_Md_ticks l_Lw_159 (by decide +kernel) rfl rfl rfl (by decide) ?_
  rintro a' υ hm
  have key : a = a' ∧ zInv υ := h.ask2 hq hm rfl (fun _ => rfl)
  exact g_lE (off := 308) (by decide +kernel) (by decide) key.1 (kk υ key.2)
theorem lb_both (h : zInv σ) (hs : zSc G X b Ln xs i) (kk : ∀ υ, zInv υ → Go G X (zLw nm) zKL 220 SH υ 1606 (zLL G b i) [] post) : Go G X (zLw nm) zKL 220 SH σ 1303 (zLL G b i) [] post := by
  refine g_l1 (by decide +kernel) ?_
  refine g_arg (k := 1) hs (by decide) (by decide +kernel) ?_
  refine g_arg (k := 2) hs (by decide) (by decide +kernel) ?_
  refine g_lC (c_Nc_both (by omega) h.cl.1 h.cl.2.1 (zr_x _) (zr_x _)) k_Nc_both l_Lw_160 (by decide +kernel) rfl rfl rfl (by decide) ?_
  rintro a τ hq
  refine g_l2 (by decide +kernel) ?_
  refine g_arg (k := 1) hs (by decide) (by decide +kernel) ?_
  refine g_arg (k := 2) hs (by decide) (by decide +kernel) ?_
  refine g_lM (c_Md_both (S := zSv σ 1) (by omega) h.mz (h.mc (hq.o 190 (by decide))) (zr_x _) (zr_x _)) k_Md_both l_Lw_163 (by decide +kernel) rfl rfl rfl (by decide) ?_
  rintro a' υ hm
  have key : a = a' ∧ zInv υ := h.ask2 hq hm rfl (fun _ => rfl)
  exact g_lE (off := 275) (by decide +kernel) (by decide) key.1 (kk υ key.2)
theorem lb_when (h : zInv σ) (hs : zSc G X b Ln xs i) (kk : ∀ υ, zInv υ → Go G X (zLw nm) zKL 220 SH υ 1606 (zLL G b i) [] post) : Go G X (zLw nm) zKL 220 SH σ 1336 (zLL G b i) [] post := by
  refine g_l1 (by decide +kernel) ?_
  refine g_arg (k := 1) hs (by decide) (by decide +kernel) ?_
  refine g_arg (k := 2) hs (by decide) (by decide +kernel) ?_
  refine g_arg (k := 3) hs (by decide) (by decide +kernel) ?_
  refine g_lC (c_Nc_when (by omega) h.cl.1 h.cl.2.1 (zr_x _) (zr_x _) (zr_x _)) k_Nc_when l_Lw_164 (by decide +kernel) rfl rfl rfl (by decide) ?_
  rintro a τ hq
  refine g_l2 (by decide +kernel) ?_
  refine g_arg (k := 1) hs (by decide) (by decide +kernel) ?_
  refine g_arg (k := 2) hs (by decide) (by decide +kernel) ?_
  refine g_arg (k := 3) hs (by decide) (by decide +kernel) ?_
  refine g_lM (c_Md_when (S := zSv σ 1) (by omega) h.mz (h.mc (hq.o 190 (by decide))) (zr_x _) (zr_x _) (zr_x _)) k_Md_when l_Lw_167 (by decide +kernel) rfl rfl rfl (by decide) ?_
  rintro a' υ hm
  have key : a = a' ∧ zInv υ := h.ask2 hq hm rfl (fun _ => rfl)
  exact g_lE (off := 232) (by decide +kernel) (by decide) key.1 (kk υ key.2)
theorem lb_frames (h : zInv σ) (hs : zSc G X b Ln xs i) (kk : ∀ υ, zInv υ → Go G X (zLw nm) zKL 220 SH υ 1606 (zLL G b i) [] post) : Go G X (zLw nm) zKL 220 SH σ 1379 (zLL G b i) [] post := by
  refine g_l1 (by decide +kernel) ?_
  refine g_arg (k := 1) hs (by decide) (by decide +kernel) ?_
  refine g_lC (c_Nc_frames (by omega) h.cl.1 h.cl.2.1 (zr_x _)) k_Nc_frames l_Lw_168 (by decide +kernel) rfl rfl rfl (by decide) ?_
  rintro a τ hq
  refine g_l2 (by decide +kernel) ?_
  refine g_arg (k := 1) hs (by decide) (by decide +kernel) ?_
  refine g_lM (c_Md_frames (S := zSv σ 1) (by omega) h.mz (h.mc (hq.o 190 (by decide))) (zr_x _)) k_Md_frames l_Lw_171 (by decide +kernel) rfl rfl rfl (by decide) ?_
  rintro a' υ hm
  have key : a = a' ∧ zInv υ := h.ask2 hq hm rfl (fun _ => rfl)
  exact g_lE (off := 209) (by decide +kernel) (by decide) key.1 (kk υ key.2)
theorem lb_next (h : zInv σ) (hs : zSc G X b Ln xs i) (kk : ∀ υ, zInv υ → Go G X (zLw nm) zKL 220 SH υ 1606 (zLL G b i) [] post) : Go G X (zLw nm) zKL 220 SH σ 1402 (zLL G b i) [] post := by
  refine g_l1 (by decide +kernel) ?_
  refine g_arg (k := 1) hs (by decide) (by decide +kernel) ?_
  refine g_lC (c_Nc_next (by omega) h.cl.1 h.cl.2.1 (zr_x _)) k_Nc_next l_Lw_172 (by decide +kernel) rfl rfl rfl (by decide) ?_
  rintro a τ hq
  refine g_l2 (by decide +kernel) ?_
  refine g_arg (k := 1) hs (by decide) (by decide +kernel) ?_
  refine g_lM (c_Md_next (S := zSv σ 1) (by omega) h.mz (h.mc (hq.o 190 (by decide))) (zr_x _)) k_Md_next l_Lw_175 (by decide +kernel) rfl rfl rfl (by decide) ?_
  rintro a' υ hm
  have key : a = a' ∧ zInv υ := h.ask2 hq hm rfl (fun _ => rfl)
  exact g_lE (off := 186) (by decide +kernel) (by decide) key.1 (kk υ key.2)
theorem lb_most (h : zInv σ) (hs : zSc G X b Ln xs i) (kk : ∀ υ, zInv υ → Go G X (zLw nm) zKL 220 SH υ 1606 (zLL G b i) [] post) : Go G X (zLw nm) zKL 220 SH σ 1425 (zLL G b i) [] post := by
  refine g_l1 (by decide +kernel) ?_
  refine g_arg (k := 1) hs (by decide) (by decide +kernel) ?_
  refine g_lC (c_Nc_most (by omega) h.cl.1 h.cl.2.1 (zr_x _)) k_Nc_most l_Lw_176 (by decide +kernel) rfl rfl rfl (by decide) ?_
  rintro a τ hq
  refine g_l2 (by decide +kernel) ?_
  refine g_arg (k := 1) hs (by decide) (by decide +kernel) ?_
  refine g_lM (c_Md_most (S := zSv σ 1) (by omega) h.mz (h.mc (hq.o 190 (by decide))) (zr_x _)) k_Md_most l_Lw_179 (by decide +kernel) rfl rfl rfl (by decide) ?_
  rintro a' υ hm
  have key : a = a' ∧ zInv υ := h.ask2 hq hm rfl (fun _ => rfl)
  exact g_lE (off := 163) (by decide +kernel) (by decide) key.1 (kk υ key.2)
theorem lb_gaps (h : zInv σ) (hs : zSc G X b Ln xs i) (kk : ∀ υ, zInv υ → Go G X (zLw nm) zKL 220 SH υ 1606 (zLL G b i) [] post) : Go G X (zLw nm) zKL 220 SH σ 1448 (zLL G b i) [] post := by
  have el := h.cl.1.lst
  have hl : 0 ≤ zlast (zSv σ 1) ∧ zlast (zSv σ 1) ≤ 1999 := ⟨h.fine.1.lr.1, h.fine.2⟩
  refine g_l1 (by decide +kernel) ?_
  refine g_lC (c_Nc_gaps (by omega) h.cl.1 h.cl.2.1 (by rw [el]; exact hl)) k_Nc_gaps l_Lw_180 (by decide +kernel) rfl rfl rfl (by decide) ?_
  rintro a τ hq
  refine g_l2 (by decide +kernel) ?_
  refine g_lM (c_Md_gaps (S := zSv σ 1) (by omega) h.mz (h.mc (hq.o 190 (by decide))) hl) k_Md_gaps l_Lw_183 (by decide +kernel) rfl rfl rfl (by decide) ?_
  rintro a' υ hm
  have key : a = a' ∧ zInv υ := h.ask2 hq hm rfl (fun _ => by rw [el]; rfl)
  exact g_lE (off := 150) (by decide +kernel) (by decide) key.1 (kk υ key.2)
theorem lb_fit (h : zInv σ) (hs : zSc G X b Ln xs i) (kk : ∀ υ, zInv υ → Go G X (zLw nm) zKL 220 SH υ 1606 (zLL G b i) [] post) : Go G X (zLw nm) zKL 220 SH σ 1461 (zLL G b i) [] post := by
  refine g_l1 (by decide +kernel) ?_
  refine g_arg (k := 1) hs (by decide) (by decide +kernel) ?_
  refine g_arg (k := 2) hs (by decide) (by decide +kernel) ?_
  refine g_arg (k := 3) hs (by decide) (by decide +kernel) ?_
  refine g_lC (c_Nc_fit (by omega) h.cl (zr_x _) (zr_x _) (zr_x _)) k_Nc_fit l_Lw_184 (by decide +kernel) rfl rfl rfl (by decide) ?_
  rintro a τ hq
  refine g_l2 (by decide +kernel) ?_
  refine g_arg (k := 1) hs (by decide) (by decide +kernel) ?_
  refine g_arg (k := 2) hs (by decide) (by decide +kernel) ?_
  refine g_arg (k := 3) hs (by decide) (by decide +kernel) ?_
  refine g_lM (c_Md_fit (S := zSv σ 1) (by omega) h.fine (h.mc (hq.o 190 (by decide))) (zr_x _) (zr_x _) (zr_x _)) k_Md_fit l_Lw_187 (by decide +kernel) rfl rfl rfl (by decide) ?_
  rintro a' υ hm
  have key : a = a' ∧ zInv υ := h.try2 hq hm rfl rfl
  exact g_lE (off := 107) (by decide +kernel) (by decide) key.1 (kk υ key.2)
theorem lb_slack (h : zInv σ) (hs : zSc G X b Ln xs i) (kk : ∀ υ, zInv υ → Go G X (zLw nm) zKL 220 SH υ 1606 (zLL G b i) [] post) : Go G X (zLw nm) zKL 220 SH σ 1504 (zLL G b i) [] post := by
  refine g_l1 (by decide +kernel) ?_
  refine g_arg (k := 1) hs (by decide) (by decide +kernel) ?_
  refine g_lC (c_Nc_slack (by omega) h.cl (zr_x _)) k_Nc_slack l_Lw_188 (by decide +kernel) rfl rfl rfl (by decide) ?_
  rintro a τ hq
  refine g_l2 (by decide +kernel) ?_
  refine g_arg (k := 1) hs (by decide) (by decide +kernel) ?_
  refine g_lM (c_Md_slack (S := zSv σ 1) (by omega) h.fine (h.mc (hq.o 190 (by decide))) (zr_x _)) k_Md_slack l_Lw_191 (by decide +kernel) rfl rfl rfl (by decide) ?_
  rintro a' υ hm
  have key : a = a' ∧ zInv υ := h.try2 hq hm rfl rfl
  exact g_lE (off := 84) (by decide +kernel) (by decide) key.1 (kk υ key.2)
theorem lb_seek (h : zInv σ) (hs : zSc G X b Ln xs i) (kk : ∀ υ, zInv υ → Go G X (zLw nm) zKL 220 SH υ 1606 (zLL G b i) [] post) : Go G X (zLw nm) zKL 220 SH σ 1527 (zLL G b i) [] post := by
  refine g_l1 (by decide +kernel) ?_
  refine g_arg (k := 1) hs (by decide) (by decide +kernel) ?_
  refine g_lC (c_Nc_seek (by omega) h.cl.1 h.cl.2.1 (zr_x _)) k_Nc_seek l_Lw_192 (by decide +kernel) rfl rfl rfl (by decide) ?_
  rintro a τ hq
  refine g_l2 (by decide +kernel) ?_
  refine g_arg (k := 1) hs (by decide) (by decide +kernel) ?_
  refine g_lM (c_Md_seek (S := zSv σ 1) (by omega) h.mz (h.mc (zSk_o hq 190 (by decide))) (zr_x _)) k_Md_seek l_Lw_195 (by decide +kernel) rfl rfl rfl (by decide) ?_
  rintro a' υ hm
  have key : a = a' ∧ zInv υ := h.seek hq hm
  exact g_lE (off := 61) (by decide +kernel) (by decide) key.1 (kk υ key.2)
theorem lb_play (h : zInv σ) (hs : zSc G X b Ln xs i) (kk : ∀ υ, zInv υ → Go G X (zLw nm) zKL 220 SH υ 1606 (zLL G b i) [] post) : Go G X (zLw nm) zKL 220 SH σ 1550 (zLL G b i) [] post := by
  refine g_l1 (by decide +kernel) ?_
  refine g_arg (k := 1) hs (by decide) (by decide +kernel) ?_
  refine g_lC (c_Nc_play (by omega) h.cl.1 h.cl.2.1 (zr_x _) h.2.2.1.2) k_Nc_play l_Lw_196 (by decide +kernel) rfl rfl rfl (by decide) ?_
  rintro a τ hq
  refine g_l2 (by decide +kernel) ?_
  refine g_arg (k := 1) hs (by decide) (by decide +kernel) ?_
  refine g_lM (c_Md_play (S := zSv σ 1) (by omega) h.mz (h.mc (zPl_o hq 190 (by decide))) (zr_x _) (by rw [zPl_o hq 189 (by decide), ← h.2.2.1.1]; exact h.2.2.1.2)) k_Md_play l_Lw_199 (by decide +kernel) rfl rfl rfl (by decide) ?_
  rintro a' υ hm
  have key : a = a' ∧ zInv υ := h.play hq hm
  exact g_lE (off := 38) (by decide +kernel) (by decide) key.1 (kk υ key.2)
theorem lb_event (h : zInv σ) (hs : zSc G X b Ln xs i) (kk : ∀ υ, zInv υ → Go G X (zLw nm) zKL 220 SH υ 1606 (zLL G b i) [] post) : Go G X (zLw nm) zKL 220 SH σ 1573 (zLL G b i) [] post := by
  obtain ⟨E, hE, q1, q2⟩ := h.2.2.2.1
  have e49 : σ 182 1 = σ 189 49 := by rw [q1.1, q2.1]
  have l1 : 0 ≤ σ 182 1 ∧ σ 182 1 ≤ 5000 := by rw [q1.1]; omega
  refine g_l1 (by decide +kernel) ?_
  refine g_arg (k := 1) hs (by decide) (by decide +kernel) ?_
  refine g_arg (k := 2) hs (by decide) (by decide +kernel) ?_
  refine g_lC (c_Nc_event (by omega) h.cl.1 h.cl.2.1 (zr_x _) (zr_x _) l1) k_Nc_event l_Lw_200 (by decide +kernel) rfl rfl rfl (by decide) ?_
  rintro a τ hq
  refine g_l2 (by decide +kernel) ?_
  refine g_arg (k := 1) hs (by decide) (by decide +kernel) ?_
  refine g_arg (k := 2) hs (by decide) (by decide +kernel) ?_
  refine g_lM (c_Md_event (S := zSv σ 1) (by omega) (h.mc (hq.o 190 (by decide))) (zr_x _) (zr_x _) (by rw [hq.o 189 (by decide), ← e49]; exact l1)) k_Md_event l_Lw_203 (by decide +kernel) rfl rfl rfl (by decide) ?_
  rintro a' υ hm
  have key : a = a' ∧ zInv υ := by
    refine h.ask2 hq hm (by rw [hq.o 189 (by decide), ← e49]) (fun hw => ?_)
    have c0 : ¬ ((xs (i + 1)).toInt < 0 ∨ 64 ≤ (xs (i + 1)).toInt ∨ (xs (i + 2)).toInt < 0 ∨ 3 < (xs (i + 2)).toInt) := fun q => by rw [if_pos q] at hw; exact absurd hw (by decide)
    rw [if_neg c0] at hw
    have c1 : ¬ (σ 182 1 ≤ (xs (i + 1)).toInt) := fun q => by rw [if_pos q] at hw; exact absurd hw (by decide)
    have n1 := q1.1
    have v1 := q1.2 (xs (i + 1)).toInt.toNat (by omega) (by omega)
    have v2 := q2.2 (xs (i + 1)).toInt.toNat (by omega) (by omega)
    rw [hq.o _ (by omega)]
    have c4 : (xs (i + 2)).toInt.toNat = 0 ∨ (xs (i + 2)).toInt.toNat = 1 ∨ (xs (i + 2)).toInt.toNat = 2 ∨ (xs (i + 2)).toInt.toNat = 3 := by omega
    rcases c4 with e | e | e | e <;> rw [e]
    · exact v1.1.trans v2.1.symm
    · exact v1.2.1.trans v2.2.1.symm
    · exact v1.2.2.1.trans v2.2.2.1.symm
    · exact v1.2.2.2.trans v2.2.2.2.symm
  exact g_lE (off := 5) (by decide +kernel) (by decide) key.1 (kk υ key.2)
end STEPS
