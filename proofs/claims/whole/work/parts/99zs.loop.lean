/-! the law from its loop on -/
def zOffs : Array Int := #[199, 212, 275, 298, 321, 354, 377, 410, 453, 506, 539, 562, 575, 598, 631, 664, 687, 720, 753, 786, 819, 868, 901, 934, 967, 990, 1013, 1036, 1059, 1072, 1095, 1138, 1181, 1204, 1247, 1270, 1303, 1346, 1369, 1392, 1415, 1428, 1471, 1494, 1517, 1540]
theorem dl_33 : decode code 33 = .ok (.tableswitch 1573 0 45 zOffs, 199) := by decide +kernel
/-- the end: true -/
def zLP : zPost := fun r _ _ _ => r = some (vi 1)
section STEPS
variable {G : zG} {X : zX} {nm : String} {b Ln i : Nat} {xs : Nat → Int32} {σ : zSt} 
theorem lb_all {post : zPost} (k : Nat) (hk : k < 46) (h : zInv σ) (hs : zSc G X b Ln xs i) (kk : ∀ υ, zInv υ → Go G X (zLw nm) zKL 220 SH υ 1606 (zLL G b i) [] post) : Go G X (zLw nm) zKL 220 SH σ 33 (zLL G b i) [vi (k : Int)] post := by
  match k, hk with
  | 0, _ => exact g_tableIn (off := 199) (tgt := 232) dl_33 ⟨by decide, by decide⟩ (by decide) (by decide) rfl (by decide) (lb_status h hs kk)
  | 1, _ => exact g_tableIn (off := 212) (tgt := 245) dl_33 ⟨by decide, by decide⟩ (by decide) (by decide) rfl (by decide) (lb_feed h hs kk)
  | 2, _ => exact g_tableIn (off := 275) (tgt := 308) dl_33 ⟨by decide, by decide⟩ (by decide) (by decide) rfl (by decide) (lb_load h hs kk)
  | 3, _ => exact g_tableIn (off := 298) (tgt := 331) dl_33 ⟨by decide, by decide⟩ (by decide) (by decide) rfl (by decide) (lb_fault h hs kk)
  | 4, _ => exact g_tableIn (off := 321) (tgt := 354) dl_33 ⟨by decide, by decide⟩ (by decide) (by decide) rfl (by decide) (lb_add h hs kk)
  | 5, _ => exact g_tableIn (off := 354) (tgt := 387) dl_33 ⟨by decide, by decide⟩ (by decide) (by decide) rfl (by decide) (lb_lose h hs kk)
  | 6, _ => exact g_tableIn (off := 377) (tgt := 410) dl_33 ⟨by decide, by decide⟩ (by decide) (by decide) rfl (by decide) (lb_move h hs kk)
  | 7, _ => exact g_tableIn (off := 410) (tgt := 443) dl_33 ⟨by decide, by decide⟩ (by decide) (by decide) rfl (by decide) (lb_mark h hs kk)
  | 8, _ => exact g_tableIn (off := 453) (tgt := 486) dl_33 ⟨by decide, by decide⟩ (by decide) (by decide) rfl (by decide) (lb_start h hs kk)
  | 9, _ => exact g_tableIn (off := 506) (tgt := 539) dl_33 ⟨by decide, by decide⟩ (by decide) (by decide) rfl (by decide) (lb_press h hs kk)
  | 10, _ => exact g_tableIn (off := 539) (tgt := 572) dl_33 ⟨by decide, by decide⟩ (by decide) (by decide) rfl (by decide) (lb_unpress h hs kk)
  | 11, _ => exact g_tableIn (off := 562) (tgt := 595) dl_33 ⟨by decide, by decide⟩ (by decide) (by decide) rfl (by decide) (lb_undo h hs kk)
  | 12, _ => exact g_tableIn (off := 575) (tgt := 608) dl_33 ⟨by decide, by decide⟩ (by decide) (by decide) rfl (by decide) (lb_many h hs kk)
  | 13, _ => exact g_tableIn (off := 598) (tgt := 631) dl_33 ⟨by decide, by decide⟩ (by decide) (by decide) rfl (by decide) (lb_clip h hs kk)
  | 14, _ => exact g_tableIn (off := 631) (tgt := 664) dl_33 ⟨by decide, by decide⟩ (by decide) (by decide) rfl (by decide) (lb_within h hs kk)
  | 15, _ => exact g_tableIn (off := 664) (tgt := 697) dl_33 ⟨by decide, by decide⟩ (by decide) (by decide) rfl (by decide) (lb_begin h hs kk)
  | 16, _ => exact g_tableIn (off := 687) (tgt := 720) dl_33 ⟨by decide, by decide⟩ (by decide) (by decide) rfl (by decide) (lb_pressed h hs kk)
  | 17, _ => exact g_tableIn (off := 720) (tgt := 753) dl_33 ⟨by decide, by decide⟩ (by decide) (by decide) rfl (by decide) (lb_state h hs kk)
  | 18, _ => exact g_tableIn (off := 753) (tgt := 786) dl_33 ⟨by decide, by decide⟩ (by decide) (by decide) rfl (by decide) (lb_local h hs kk)
  | 19, _ => exact g_tableIn (off := 786) (tgt := 819) dl_33 ⟨by decide, by decide⟩ (by decide) (by decide) rfl (by decide) (lb_pass h hs kk)
  | 20, _ => exact g_tableIn (off := 819) (tgt := 852) dl_33 ⟨by decide, by decide⟩ (by decide) (by decide) rfl (by decide) (lb_playing h hs kk)
  | 21, _ => exact g_tableIn (off := 868) (tgt := 901) dl_33 ⟨by decide, by decide⟩ (by decide) (by decide) rfl (by decide) (lb_known h hs kk)
  | 22, _ => exact g_tableIn (off := 901) (tgt := 934) dl_33 ⟨by decide, by decide⟩ (by decide) (by decide) rfl (by decide) (lb_strength h hs kk)
  | 23, _ => exact g_tableIn (off := 934) (tgt := 967) dl_33 ⟨by decide, by decide⟩ (by decide) (by decide) rfl (by decide) (lb_share h hs kk)
  | 24, _ => exact g_tableIn (off := 967) (tgt := 1000) dl_33 ⟨by decide, by decide⟩ (by decide) (by decide) rfl (by decide) (lb_dark h hs kk)
  | 25, _ => exact g_tableIn (off := 990) (tgt := 1023) dl_33 ⟨by decide, by decide⟩ (by decide) (by decide) rfl (by decide) (lb_top h hs kk)
  | 26, _ => exact g_tableIn (off := 1013) (tgt := 1046) dl_33 ⟨by decide, by decide⟩ (by decide) (by decide) rfl (by decide) (lb_seen h hs kk)
  | 27, _ => exact g_tableIn (off := 1036) (tgt := 1069) dl_33 ⟨by decide, by decide⟩ (by decide) (by decide) rfl (by decide) (lb_brightest h hs kk)
  | 28, _ => exact g_tableIn (off := 1059) (tgt := 1092) dl_33 ⟨by decide, by decide⟩ (by decide) (by decide) rfl (by decide) (lb_hidden h hs kk)
  | 29, _ => exact g_tableIn (off := 1072) (tgt := 1105) dl_33 ⟨by decide, by decide⟩ (by decide) (by decide) rfl (by decide) (lb_pieces h hs kk)
  | 30, _ => exact g_tableIn (off := 1095) (tgt := 1128) dl_33 ⟨by decide, by decide⟩ (by decide) (by decide) rfl (by decide) (lb_piece h hs kk)
  | 31, _ => exact g_tableIn (off := 1138) (tgt := 1171) dl_33 ⟨by decide, by decide⟩ (by decide) (by decide) rfl (by decide) (lb_reach h hs kk)
  | 32, _ => exact g_tableIn (off := 1181) (tgt := 1214) dl_33 ⟨by decide, by decide⟩ (by decide) (by decide) rfl (by decide) (lb_spans h hs kk)
  | 33, _ => exact g_tableIn (off := 1204) (tgt := 1237) dl_33 ⟨by decide, by decide⟩ (by decide) (by decide) rfl (by decide) (lb_span h hs kk)
  | 34, _ => exact g_tableIn (off := 1247) (tgt := 1280) dl_33 ⟨by decide, by decide⟩ (by decide) (by decide) rfl (by decide) (lb_ticks h hs kk)
  | 35, _ => exact g_tableIn (off := 1270) (tgt := 1303) dl_33 ⟨by decide, by decide⟩ (by decide) (by decide) rfl (by decide) (lb_both h hs kk)
  | 36, _ => exact g_tableIn (off := 1303) (tgt := 1336) dl_33 ⟨by decide, by decide⟩ (by decide) (by decide) rfl (by decide) (lb_when h hs kk)
  | 37, _ => exact g_tableIn (off := 1346) (tgt := 1379) dl_33 ⟨by decide, by decide⟩ (by decide) (by decide) rfl (by decide) (lb_frames h hs kk)
  | 38, _ => exact g_tableIn (off := 1369) (tgt := 1402) dl_33 ⟨by decide, by decide⟩ (by decide) (by decide) rfl (by decide) (lb_next h hs kk)
  | 39, _ => exact g_tableIn (off := 1392) (tgt := 1425) dl_33 ⟨by decide, by decide⟩ (by decide) (by decide) rfl (by decide) (lb_most h hs kk)
  | 40, _ => exact g_tableIn (off := 1415) (tgt := 1448) dl_33 ⟨by decide, by decide⟩ (by decide) (by decide) rfl (by decide) (lb_gaps h hs kk)
  | 41, _ => exact g_tableIn (off := 1428) (tgt := 1461) dl_33 ⟨by decide, by decide⟩ (by decide) (by decide) rfl (by decide) (lb_fit h hs kk)
  | 42, _ => exact g_tableIn (off := 1471) (tgt := 1504) dl_33 ⟨by decide, by decide⟩ (by decide) (by decide) rfl (by decide) (lb_slack h hs kk)
  | 43, _ => exact g_tableIn (off := 1494) (tgt := 1527) dl_33 ⟨by decide, by decide⟩ (by decide) (by decide) rfl (by decide) (lb_seek h hs kk)
  | 44, _ => exact g_tableIn (off := 1517) (tgt := 1550) dl_33 ⟨by decide, by decide⟩ (by decide) (by decide) rfl (by decide) (lb_play h hs kk)
  | 45, _ => exact g_tableIn (off := 1540) (tgt := 1573) dl_33 ⟨by decide, by decide⟩ (by decide) (by decide) rfl (by decide) (lb_event h hs kk)
  | k + 46, hk => exact absurd hk (by omega)
theorem lb_loop (hX : va_X b Ln xs X.2.2.1 X.2.2.1.heap) (hbl : b < X.2.2.1.heap.size) (hbA : ¬ zA G b) (hL : Ln ≤ 3072) : ∀ (m i : Nat) (σ : zSt), Ln < i + m → i ≤ Ln + 5 → zInv σ → Go G X (zLw nm) zKL 220 SH σ 18 (zLL G b i) [] zLP := by
  intro m
  induction m with
  | zero => 
    intro i σ hm hi h
    refine g_iload_n (i := 3) (show decode code 18 = .ok (.iload_n 3, 1) by decide +kernel) rfl ?_
    refine g_aload_n (i := 0) (show decode code 19 = .ok (.aload_n 0, 1) by decide +kernel) rfl ?_
    refine g_scl hX hbl hbA (show decode code 20 = .ok (.arraylength, 1) by decide +kernel) ?_
    refine g_bipush (a := 6) (show decode code 21 = .ok (.bipush 6, 2) by decide +kernel) (by decide) ?_
    refine g_isub (show decode code 23 = .ok (.isub, 1) by decide +kernel) ?_
    refine g_icmp_gt (tgt := 1612) (show decode code 24 = .ok (.if_icmp .gt 1588, 3) by decide +kernel) (by decide) ⟨by omega, by omega⟩ ⟨by omega, by omega⟩ (fun _ => ?_) (fun hle => absurd hle (by omega))
    refine g_iconst (a := 1) (show decode code 1612 = .ok (.iconst 1, 1) by decide +kernel) ?_
    exact g_iret (a := 1) (show decode code 1613 = .ok (.ireturn, 1) by decide +kernel) rfl (Or.inr ⟨rfl, Or.inr rfl⟩) ⟨by decide, by decide⟩ rfl
  | succ m ih =>
    intro i σ hm hi h
    refine g_iload_n (i := 3) (show decode code 18 = .ok (.iload_n 3, 1) by decide +kernel) rfl ?_
    refine g_aload_n (i := 0) (show decode code 19 = .ok (.aload_n 0, 1) by decide +kernel) rfl ?_
    refine g_scl hX hbl hbA (show decode code 20 = .ok (.arraylength, 1) by decide +kernel) ?_
    refine g_bipush (a := 6) (show decode code 21 = .ok (.bipush 6, 2) by decide +kernel) (by decide) ?_
    refine g_isub (show decode code 23 = .ok (.isub, 1) by decide +kernel) ?_
    refine g_icmp_gt (tgt := 1612) (show decode code 24 = .ok (.if_icmp .gt 1588, 3) by decide +kernel) (by decide) ⟨by omega, by omega⟩ ⟨by omega, by omega⟩ (fun _ => ?_) (fun hle => ?_)
    · refine g_iconst (a := 1) (show decode code 1612 = .ok (.iconst 1, 1) by decide +kernel) ?_
      exact g_iret (a := 1) (show decode code 1613 = .ok (.ireturn, 1) by decide +kernel) rfl (Or.inr ⟨rfl, Or.inr rfl⟩) ⟨by decide, by decide⟩ rfl
    have hs : zSc G X b Ln xs i := ⟨hX, hbl, hbA, by omega, hL⟩
    have kk : ∀ υ, zInv υ → Go G X (zLw nm) zKL 220 SH υ 1606 (zLL G b i) [] zLP := fun υ hυ => by
      refine g_iinc (i := 3) (L' := zLL G b (i + 6)) (show decode code 1606 = .ok (.iinc 3 6, 3) by decide +kernel) rfl rfl rfl ?_
      refine g_goto (tgt := 18) (show decode code 1609 = .ok (.goto (-1591), 3) by decide +kernel) (by decide) ?_
      exact ih (i + 6) υ (by omega) (by omega) hυ
    refine g_aload_n (i := 0) (show decode code 27 = .ok (.aload_n 0, 1) by decide +kernel) rfl ?_
    refine g_iload_n (i := 3) (show decode code 28 = .ok (.iload_n 3, 1) by decide +kernel) rfl ?_
    refine g_sld (j := i) hX hbl hbA (show decode code 29 = .ok (.iaload, 1) by decide +kernel) rfl (by omega) hL ?_
    refine g_bipush (a := 63) (show decode code 30 = .ok (.bipush 63, 2) by decide +kernel) (by decide) ?_
    refine g_and63 (show decode code 32 = .ok (.iand, 1) by decide +kernel) (fun c h0 h1 => ?_)
    by_cases hc : c ≤ 45
    · obtain ⟨k, rfl⟩ := Int.eq_ofNat_of_zero_le h0
      exact lb_all k (by omega) h hs kk
    · exact g_tableOut (tgt := 1606) dl_33 ⟨by omega, by omega⟩ (Or.inr (by omega)) (by decide) (kk σ h)
/-- the law from its first instruction on -/
theorem lb_first (hX : va_X b Ln xs X.2.2.1 X.2.2.1.heap) (hbl : b < X.2.2.1.heap.size) (hbA : ¬ zA G b) (hL : Ln ≤ 3072) : Go G X (zLw nm) (30, 0, 0, 600000, 7302250) 0 SH (fun _ _ => 0) 0 [(0, .ref b)] [] zLP := by
  refine g_nw (κ' := (30, 1, 13, 600000, 7302250)) (n' := 1) fo_Nc cl_Lw_7 in_Nc ii_Nc (df_Nc G) (show decode code 0 = .ok (.new 7, 3) by decide +kernel) rfl ⟨by decide, by decide⟩ rfl rfl ?_
  refine g_dup (show decode code 3 = .ok (.dup, 1) by decide +kernel) rfl ?_
  refine g_cI (κ' := (30, 189, 5804, 600000, 7302250)) (n' := 189) (sh2 := SH) (c_Nc_init (fun k _ => rfl)) k_Nc_init l_Lw_9 (show decode code 4 = .ok (.invokespecial 9, 3) by decide +kernel) rfl rfl (Nat.le_of_ble_eq_true rfl) (by decide) ⟨by decide, by decide⟩ rfl rfl rfl ?_
  intro σ hN
  refine g_astore_n (i := 1) (L' := [(0, .ref b), (1, vr G 0)]) (show decode code 7 = .ok (.astore_n 1, 1) by decide +kernel) rfl rfl ?_
  refine g_nw (κ' := (30, 190, 5854, 600000, 7302250)) (n' := 190) fo_Md cl_Lw_10 in_Md ii_Md (df_Md G) (show decode code 8 = .ok (.new 10, 3) by decide +kernel) (hN.2.1 189 (by omega)) ⟨by decide, by decide⟩ rfl rfl ?_
  refine g_dup (show decode code 11 = .ok (.dup, 1) by decide +kernel) rfl ?_
  refine g_cI (κ' := zKL) (n' := 220) (sh2 := SH) (c_Md_init (fun k hk => hN.2.1 k (by omega))) k_Md_init l_Lw_12 (show decode code 12 = .ok (.invokespecial 12, 3) by decide +kernel) rfl rfl (Nat.le_of_ble_eq_true rfl) (by decide) ⟨by decide, by decide⟩ rfl rfl rfl ?_
  rintro τ ⟨h1, h2, h3, h4⟩
  refine g_astore_n (i := 2) (L' := [(0, .ref b), (1, vr G 0), (2, vr G 189)]) (show decode code 15 = .ok (.astore_n 2, 1) by decide +kernel) rfl rfl ?_
  refine g_iconst (a := 0) (show decode code 16 = .ok (.iconst 0, 1) by decide +kernel) ?_
  refine g_istore_n (i := 3) (L' := zLL G b 0) (show decode code 17 = .ok (.istore_n 3, 1) by decide +kernel) rfl rfl ?_
  exact lb_loop hX hbl hbA hL (Ln + 1) 0 τ (by omega) (by omega) (zInv_new hN h1 h2 h3 h4)
end STEPS
