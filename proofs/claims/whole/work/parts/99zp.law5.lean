/-! steps of the law -/
section STEPS
variable {G : zG} {X : zX} {nm : String} {b Ln i : Nat} {xs : Nat → Int32} {σ : zSt} {post : zPost}
theorem lb_many (h : zInv σ) (hs : zSc G X b Ln xs i) (kk : ∀ υ, zInv υ → Go G X (zLw nm) zKL 220 SH υ 1606 (zLL G b i) [] post) : Go G X (zLw nm) zKL 220 SH σ 608 (zLL G b i) [] post := by
  have e49 : σ 182 1 = σ 189 49 := by
    obtain ⟨E, _, q1, q2⟩ := h.2.2.2.1
    rw [q1.1, q2.1]
  refine g_l1 (by decide +kernel) ?_
  refine g_arg (k := 1) hs (by decide) (by decide +kernel) ?_
  refine g_lC (c_Nc_many (by omega) h.cl.1 h.cl.2.1 (zr_x _)) k_Nc_many l_Lw_67 (by decide +kernel) rfl rfl rfl (by decide) ?_
  rintro a τ hq
  refine g_l2 (by decide +kernel) ?_
  refine g_arg (k := 1) hs (by decide) (by decide +kernel) ?_
  refine g_lM (c_Md_many (S := zSv σ 1) (by omega) h.mz (h.mc (hq.o 190 (by decide))) (zr_x _)) k_Md_many l_Lw_70 (by decide +kernel) rfl rfl rfl (by decide) ?_
  rintro a' υ hm
  have key : a = a' ∧ zInv υ := h.ask2 hq hm rfl (fun _ => by rw [hq.o 189 (by decide), ← h.2.2.2.2.2.1.1, ← h.2.2.1.1, ← e49, ← h.2.2.2.2.1.1]; rfl)
  exact g_lE (off := 980) (by decide +kernel) (by decide) key.1 (kk υ key.2)
theorem lb_clip (h : zInv σ) (hs : zSc G X b Ln xs i) (kk : ∀ υ, zInv υ → Go G X (zLw nm) zKL 220 SH υ 1606 (zLL G b i) [] post) : Go G X (zLw nm) zKL 220 SH σ 631 (zLL G b i) [] post := by
  refine g_l1 (by decide +kernel) ?_
  refine g_arg (k := 1) hs (by decide) (by decide +kernel) ?_
  refine g_arg (k := 2) hs (by decide) (by decide +kernel) ?_
  refine g_lC (c_Nc_clip (by omega) h.cl.1 h.cl.2.1 (zr_x _) (zr_x _)) k_Nc_clip l_Lw_71 (by decide +kernel) rfl rfl rfl (by decide) ?_
  rintro a τ hq
  refine g_l2 (by decide +kernel) ?_
  refine g_arg (k := 1) hs (by decide) (by decide +kernel) ?_
  refine g_arg (k := 2) hs (by decide) (by decide +kernel) ?_
  refine g_lM (c_Md_clip (S := zSv σ 1) (by omega) (h.mc (hq.o 190 (by decide))) (zr_x _) (zr_x _)) k_Md_clip l_Lw_74 (by decide +kernel) rfl rfl rfl (by decide) ?_
  rintro a' υ hm
  have key : a = a' ∧ zInv υ := h.ask2 hq hm rfl (fun _ => rfl)
  exact g_lE (off := 947) (by decide +kernel) (by decide) key.1 (kk υ key.2)
theorem lb_within (h : zInv σ) (hs : zSc G X b Ln xs i) (kk : ∀ υ, zInv υ → Go G X (zLw nm) zKL 220 SH υ 1606 (zLL G b i) [] post) : Go G X (zLw nm) zKL 220 SH σ 664 (zLL G b i) [] post := by
  refine g_l1 (by decide +kernel) ?_
  refine g_arg (k := 1) hs (by decide) (by decide +kernel) ?_
  refine g_arg (k := 2) hs (by decide) (by decide +kernel) ?_
  refine g_lC (c_Nc_within (by omega) h.cl.1 h.cl.2.1 (zr_x _) (zr_x _)) k_Nc_within l_Lw_75 (by decide +kernel) rfl rfl rfl (by decide) ?_
  rintro a τ hq
  refine g_l2 (by decide +kernel) ?_
  refine g_arg (k := 1) hs (by decide) (by decide +kernel) ?_
  refine g_arg (k := 2) hs (by decide) (by decide +kernel) ?_
  refine g_lM (c_Md_within (S := zSv σ 1) (by omega) (h.mc (hq.o 190 (by decide))) (zr_x _) (zr_x _)) k_Md_within l_Lw_78 (by decide +kernel) rfl rfl rfl (by decide) ?_
  rintro a' υ hm
  have key : a = a' ∧ zInv υ := h.ask2 hq hm rfl (fun _ => rfl)
  exact g_lE (off := 914) (by decide +kernel) (by decide) key.1 (kk υ key.2)
theorem lb_begin (h : zInv σ) (hs : zSc G X b Ln xs i) (kk : ∀ υ, zInv υ → Go G X (zLw nm) zKL 220 SH υ 1606 (zLL G b i) [] post) : Go G X (zLw nm) zKL 220 SH σ 697 (zLL G b i) [] post := by
  refine g_l1 (by decide +kernel) ?_
  refine g_arg (k := 1) hs (by decide) (by decide +kernel) ?_
  refine g_lC (c_Nc_begin (by omega) h.cl.1 h.cl.2.1 (zr_x _)) k_Nc_begin l_Lw_79 (by decide +kernel) rfl rfl rfl (by decide) ?_
  rintro a τ hq
  refine g_l2 (by decide +kernel) ?_
  refine g_arg (k := 1) hs (by decide) (by decide +kernel) ?_
  refine g_lM (c_Md_begin (S := zSv σ 1) (by omega) (h.mc (hq.o 190 (by decide))) (zr_x _)) k_Md_begin l_Lw_82 (by decide +kernel) rfl rfl rfl (by decide) ?_
  rintro a' υ hm
  have key : a = a' ∧ zInv υ := h.ask2 hq hm rfl (fun _ => rfl)
  exact g_lE (off := 891) (by decide +kernel) (by decide) key.1 (kk υ key.2)
theorem lb_pressed (h : zInv σ) (hs : zSc G X b Ln xs i) (kk : ∀ υ, zInv υ → Go G X (zLw nm) zKL 220 SH υ 1606 (zLL G b i) [] post) : Go G X (zLw nm) zKL 220 SH σ 720 (zLL G b i) [] post := by
  refine g_l1 (by decide +kernel) ?_
  refine g_arg (k := 1) hs (by decide) (by decide +kernel) ?_
  refine g_arg (k := 2) hs (by decide) (by decide +kernel) ?_
  refine g_lC (c_Nc_pressed (by omega) h.cl.1 h.cl.2.1 (zr_x _) (zr_x _)) k_Nc_pressed l_Lw_83 (by decide +kernel) rfl rfl rfl (by decide) ?_
  rintro a τ hq
  refine g_l2 (by decide +kernel) ?_
  refine g_arg (k := 1) hs (by decide) (by decide +kernel) ?_
  refine g_arg (k := 2) hs (by decide) (by decide +kernel) ?_
  refine g_lM (c_Md_pressed (S := zSv σ 1) (by omega) (h.mc (hq.o 190 (by decide))) (zr_x _) (zr_x _)) k_Md_pressed l_Lw_86 (by decide +kernel) rfl rfl rfl (by decide) ?_
  rintro a' υ hm
  have key : a = a' ∧ zInv υ := h.ask2 hq hm rfl (fun _ => rfl)
  exact g_lE (off := 858) (by decide +kernel) (by decide) key.1 (kk υ key.2)
theorem lb_state (h : zInv σ) (hs : zSc G X b Ln xs i) (kk : ∀ υ, zInv υ → Go G X (zLw nm) zKL 220 SH υ 1606 (zLL G b i) [] post) : Go G X (zLw nm) zKL 220 SH σ 753 (zLL G b i) [] post := by
  refine g_l1 (by decide +kernel) ?_
  refine g_arg (k := 1) hs (by decide) (by decide +kernel) ?_
  refine g_arg (k := 2) hs (by decide) (by decide +kernel) ?_
  refine g_lC (c_Nc_state (by omega) h.cl.1 h.cl.2.1 (zr_x _) (zr_x _)) k_Nc_state l_Lw_87 (by decide +kernel) rfl rfl rfl (by decide) ?_
  rintro a τ hq
  refine g_l2 (by decide +kernel) ?_
  refine g_arg (k := 1) hs (by decide) (by decide +kernel) ?_
  refine g_arg (k := 2) hs (by decide) (by decide +kernel) ?_
  refine g_lM (c_Md_state (S := zSv σ 1) (by omega) h.mz (h.mc (hq.o 190 (by decide))) (zr_x _) (zr_x _)) k_Md_state l_Lw_90 (by decide +kernel) rfl rfl rfl (by decide) ?_
  rintro a' υ hm
  have key : a = a' ∧ zInv υ := h.ask2 hq hm rfl (fun _ => rfl)
  exact g_lE (off := 825) (by decide +kernel) (by decide) key.1 (kk υ key.2)
theorem lb_local (h : zInv σ) (hs : zSc G X b Ln xs i) (kk : ∀ υ, zInv υ → Go G X (zLw nm) zKL 220 SH υ 1606 (zLL G b i) [] post) : Go G X (zLw nm) zKL 220 SH σ 786 (zLL G b i) [] post := by
  refine g_l1 (by decide +kernel) ?_
  refine g_arg (k := 1) hs (by decide) (by decide +kernel) ?_
  refine g_arg (k := 2) hs (by decide) (by decide +kernel) ?_
  refine g_lC (c_Nc_local (by omega) h.cl.1 h.cl.2.1 (zr_x _) (zr_x _)) k_Nc_local l_Lw_91 (by decide +kernel) rfl rfl rfl (by decide) ?_
  rintro a τ hq
  refine g_l2 (by decide +kernel) ?_
  refine g_arg (k := 1) hs (by decide) (by decide +kernel) ?_
  refine g_arg (k := 2) hs (by decide) (by decide +kernel) ?_
  refine g_lM (c_Md_local (S := zSv σ 1) (by omega) h.mz (h.mc (hq.o 190 (by decide))) (zr_x _) (zr_x _)) k_Md_local l_Lw_94 (by decide +kernel) rfl rfl rfl (by decide) ?_
  rintro a' υ hm
  have key : a = a' ∧ zInv υ := h.ask2 hq hm rfl (fun _ => rfl)
  exact g_lE (off := 792) (by decide +kernel) (by decide) key.1 (kk υ key.2)
theorem lb_pass (h : zInv σ) (hs : zSc G X b Ln xs i) (kk : ∀ υ, zInv υ → Go G X (zLw nm) zKL 220 SH υ 1606 (zLL G b i) [] post) : Go G X (zLw nm) zKL 220 SH σ 819 (zLL G b i) [] post := by
  refine g_l1 (by decide +kernel) ?_
  refine g_arg (k := 1) hs (by decide) (by decide +kernel) ?_
  refine g_arg (k := 2) hs (by decide) (by decide +kernel) ?_
  refine g_lC (c_Nc_pass (by omega) h.cl.1 h.cl.2.1 (zr_x _) (zr_x _)) k_Nc_pass l_Lw_95 (by decide +kernel) rfl rfl rfl (by decide) ?_
  rintro a τ hq
  refine g_l2 (by decide +kernel) ?_
  refine g_arg (k := 1) hs (by decide) (by decide +kernel) ?_
  refine g_arg (k := 2) hs (by decide) (by decide +kernel) ?_
  refine g_lM (c_Md_pass (S := zSv σ 1) (by omega) h.mz (h.mc (hq.o 190 (by decide))) (zr_x _) (zr_x _)) k_Md_pass l_Lw_98 (by decide +kernel) rfl rfl rfl (by decide) ?_
  rintro a' υ hm
  have key : a = a' ∧ zInv υ := h.ask2 hq hm rfl (fun _ => rfl)
  exact g_lE (off := 759) (by decide +kernel) (by decide) key.1 (kk υ key.2)
theorem lb_playing (h : zInv σ) (hs : zSc G X b Ln xs i) (kk : ∀ υ, zInv υ → Go G X (zLw nm) zKL 220 SH υ 1606 (zLL G b i) [] post) : Go G X (zLw nm) zKL 220 SH σ 852 (zLL G b i) [] post := by
  refine g_l1 (by decide +kernel) ?_
  refine g_arg (k := 1) hs (by decide) (by decide +kernel) ?_
  refine g_arg (k := 2) hs (by decide) (by decide +kernel) ?_
  refine g_if_eq (tgt := 870) (show decode code 863 = .ok (.ifCond .eq 7, 3) by decide +kernel) (by decide) (zr_x _) (fun e0 => ?_) (fun e0 => ?_)
  · refine g_iconst (a := 0) (show decode code 870 = .ok (.iconst 0, 1) by decide +kernel) ?_
    refine g_lC (pc := 871) (c_Nc_playing (f := 0) (by omega) h.cl.1 h.cl.2.1 (zr_x _) (by decide)) k_Nc_playing l_Lw_99 (by decide +kernel) rfl rfl rfl (by decide) ?_
    rintro a τ hq
    refine g_l2 (by decide +kernel) ?_
    refine g_arg (k := 1) hs (by decide) (by decide +kernel) ?_
    refine g_arg (k := 2) hs (by decide) (by decide +kernel) ?_
    refine g_if_eq (tgt := 892) (show decode code 885 = .ok (.ifCond .eq 7, 3) by decide +kernel) (by decide) (zr_x _) (fun e1 => ?_) (fun e1 => ?_)
    · refine g_iconst (a := 0) (show decode code 892 = .ok (.iconst 0, 1) by decide +kernel) ?_
      refine g_lM (pc := 893) (c_Md_playing (f := 0) (S := zSv σ 1) (by omega) h.mz (h.mc (hq.o 190 (by decide))) (zr_x _) (by decide)) k_Md_playing l_Lw_103 (by decide +kernel) rfl rfl rfl (by decide) ?_
      rintro a' υ hm
      have key : a = a' ∧ zInv υ := h.ask2 hq hm rfl (fun _ => rfl)
      exact g_lE (off := 710) (by decide +kernel) (by decide) key.1 (kk υ key.2)
    · exact absurd e0 e1
  · refine g_iconst (a := 1) (show decode code 866 = .ok (.iconst 1, 1) by decide +kernel) ?_
    refine g_goto (tgt := 871) (show decode code 867 = .ok (.goto 4, 3) by decide +kernel) (by decide) ?_
    refine g_lC (pc := 871) (c_Nc_playing (f := 1) (by omega) h.cl.1 h.cl.2.1 (zr_x _) (by decide)) k_Nc_playing l_Lw_99 (by decide +kernel) rfl rfl rfl (by decide) ?_
    rintro a τ hq
    refine g_l2 (by decide +kernel) ?_
    refine g_arg (k := 1) hs (by decide) (by decide +kernel) ?_
    refine g_arg (k := 2) hs (by decide) (by decide +kernel) ?_
    refine g_if_eq (tgt := 892) (show decode code 885 = .ok (.ifCond .eq 7, 3) by decide +kernel) (by decide) (zr_x _) (fun e1 => ?_) (fun e1 => ?_)
    · exact absurd e1 e0
    · refine g_iconst (a := 1) (show decode code 888 = .ok (.iconst 1, 1) by decide +kernel) ?_
      refine g_goto (tgt := 893) (show decode code 889 = .ok (.goto 4, 3) by decide +kernel) (by decide) ?_
      refine g_lM (pc := 893) (c_Md_playing (f := 1) (S := zSv σ 1) (by omega) h.mz (h.mc (hq.o 190 (by decide))) (zr_x _) (by decide)) k_Md_playing l_Lw_103 (by decide +kernel) rfl rfl rfl (by decide) ?_
      rintro a' υ hm
      have key : a = a' ∧ zInv υ := h.ask2 hq hm rfl (fun _ => rfl)
      exact g_lE (off := 710) (by decide +kernel) (by decide) key.1 (kk υ key.2)
theorem lb_known (h : zInv σ) (hs : zSc G X b Ln xs i) (kk : ∀ υ, zInv υ → Go G X (zLw nm) zKL 220 SH υ 1606 (zLL G b i) [] post) : Go G X (zLw nm) zKL 220 SH σ 901 (zLL G b i) [] post := by
  refine g_l1 (by decide +kernel) ?_
  refine g_arg (k := 1) hs (by decide) (by decide +kernel) ?_
  refine g_arg (k := 2) hs (by decide) (by decide +kernel) ?_
  refine g_lC (c_Nc_known (by omega) h.cl.1 h.cl.2.1 (zr_x _) (zr_x _)) k_Nc_known l_Lw_104 (by decide +kernel) rfl rfl rfl (by decide) ?_
  rintro a τ hq
  refine g_l2 (by decide +kernel) ?_
  refine g_arg (k := 1) hs (by decide) (by decide +kernel) ?_
  refine g_arg (k := 2) hs (by decide) (by decide +kernel) ?_
  refine g_lM (c_Md_known (S := zSv σ 1) (by omega) h.mz (h.mc (hq.o 190 (by decide))) (zr_x _) (zr_x _)) k_Md_known l_Lw_107 (by decide +kernel) rfl rfl rfl (by decide) ?_
  rintro a' υ hm
  have key : a = a' ∧ zInv υ := h.ask2 hq hm rfl (fun _ => rfl)
  exact g_lE (off := 677) (by decide +kernel) (by decide) key.1 (kk υ key.2)
end STEPS
