theorem w_Md_byPress {G : zG} {X : zX} {n : Nat} {σ : zSt} {S : zSt} {s K k : Nat} {t : Int} (hn : 220 ≤ n) (hx : zSx σ S s t K) (hk : k < zN S) (hK : S 2 k < K) (h3 : S 4 k = 3) (ht : 0 ≤ t ∧ t ≤ 1999) {o : Nat} (ho : S 2 k = o)  : ∀ (m : Nat) (i : Nat) (x5 : Int) (L6 : List (Nat × Value)), x5 = (i : Int) → (∀ j, j < i → zbq S t k j = false) → (L6 = [] ∨ (∃ v, L6 = [(6, vi v)]) ∨ ∃ v w, L6 = [(6, vi v), (7, vi w)]) → i ≤ (S 0 8).toNat → (S 0 8).toNat < i + m → Go G X m_Md_byPress (2, 0, 0, 0, 0) n SH σ 10 ([(0, vr G 189), (1, vi (s : Int)), (2, vi (k : Int)), (3, vi t), (4, vi (o : Int)), (5, vi x5)] ++ L6) [] (zL n SH (fun a σ' => a = zB0 S t k ∧ σ' = σ)) := by
  intro m
  induction m with
  | zero => intro i x5 L6 e5 hb h6 hi hm; exact absurd hm (by omega)
  | succ m ih =>
    intro i x5 L6 e5 hb h6 hi hm
    obtain ⟨hM, ⟨hS, hL⟩, hO, hP, hR, hs8, hKN⟩ := id hx
    have e0 := hS.n
    have e8 := hS.p
    have hN := hS.N
    have hz : zN S = (S 0 0).toNat := rfl
    obtain ⟨d, r, hv⟩ := hM.1.1
    refine g_less [0, 1, 2, 3, 4, 5] (L' := [(0, vr G 189), (1, vi (s : Int)), (2, vi (k : Int)), (3, vi t), (4, vi (o : Int)), (5, vi x5)]) (by rcases h6 with rfl | ⟨v, rfl⟩ | ⟨v, w, rfl⟩ <;> rfl) ?_
    subst e5
    have bs : zBs S 12 k = k := by rw [zBs_s, h3]; rfl
    have tk := hv.2.1 k hk
    have kr := hS.rg (show k < 12 by omega)
    have km := hS.mu hk
    refine g_iload (i := 5) (by decide +kernel) rfl ?_
    refine g_aload_n (i := 0) (by decide +kernel) rfl ?_
    refine g_getr f_Md_7 (by decide +kernel) (by omega) rfl rfl ?_
    refine g_iconst (a := 1) (by decide +kernel) ?_
    refine g_iald (j := 1) (by decide +kernel) (by omega) rfl (by omega) (by omega) (by decide) ?_
    refine g_icmp_ge (off := 126) (tgt := 144) (by decide +kernel) (by decide) ⟨by omega, by omega⟩ ⟨by omega, by omega⟩ (fun h18 => ?_) (fun h18 => ?_)
    · refine g_ldc2 (x := 347) (a := -1) (by decide +kernel) c_Md_347 (by decide) ?_
      refine g_retL (by decide +kernel) rfl ⟨by decide, by decide⟩ ?_
      refine ⟨?_, rfl⟩
      unfold zB0 zBq
      rw [zfst_none (fun j hj => hb j (by omega)), if_pos rfl]
    · obtain ⟨q, eq⟩ : ∃ q, q = zpr S i := ⟨_, rfl⟩
      have hi2 : i < (S 0 8).toNat := by omega
      have hq : q < (S 0 8).toNat := by rw [eq]; exact zpr_lt S hi2
      have zo := zord_in (S 9) (S 0 8).toNat i hi2
      have eo : σ 207 i = (q : Int) := by rw [hO i hi2, eq]; unfold zpr; omega
      have q1 := hS.tm hq
      have q2 := hS.ky hq
      have q3 := hS.pr (show q < 6 by omega)
      have bq : zbq S t k i = (decide (S 8 q = S 6 k ∧ S 9 q ≤ t ∧ zv S (S 9 q) 1 o = 2) && zsame (S 2) (zv S t 3) (zv S (S 9 q) 3) 12 o) := by unfold zbq; rw [← eq, bs, ho, Int.toNat_natCast]
      refine g_aload_n (i := 0) (by decide +kernel) rfl ?_
      refine g_getr f_Md_103 (by decide +kernel) (by omega) rfl rfl ?_
      refine g_iload (i := 5) (by decide +kernel) rfl ?_
      refine g_iald (j := i) (by decide +kernel) (by omega) rfl (by omega) (by omega) (by decide) ?_
      rw [eo]
      refine g_istore (i := 6) (L' := [(0, _), (1, _), (2, _), (3, _), (4, _), (5, _), (6, _)]) (by decide +kernel) rfl rfl ?_
      refine g_aload_n (i := 0) (by decide +kernel) rfl ?_
      refine g_getr f_Md_7 (by decide +kernel) (by omega) rfl rfl ?_
      refine g_sipush (a := 188) (by decide +kernel) (by decide) ?_
      refine g_iload (i := 6) (by decide +kernel) rfl ?_
      refine g_iadd (by decide +kernel) ?_
      refine g_iald (j := 188 + q) (by decide +kernel) (by omega) rfl (by omega) (by omega) (by decide) ?_
      refine g_iload_n (i := 3) (by decide +kernel) rfl ?_
      refine g_icmp_gt (off := 96) (tgt := 138) (by decide +kernel) (by decide) ⟨by omega, by omega⟩ ⟨by omega, by omega⟩ (fun h42 => ?_) (fun h42 => ?_)
      · refine g_iinc (i := 5) (b := 1) (L' := [(0, _), (1, _), (2, _), (3, _), (4, _), (5, _), (6, _)]) (by decide +kernel) rfl rfl rfl ?_
        refine g_goto (off := -131) (tgt := 10) (by decide +kernel) (by decide) ?_
        refine ih (i + 1) _ _ (by push_cast; rfl) (fun j hj => ?_) (by first | exact Or.inr (Or.inl ⟨_, rfl⟩) | exact Or.inr (Or.inr ⟨_, _, rfl⟩)) (by omega) (by omega)
        rcases Nat.lt_or_ge j i with z | z
        · exact hb j z
        · rw [show j = i by omega, bq]
          rw [decide_eq_false (by omega), Bool.false_and]
      · refine g_aload_n (i := 0) (by decide +kernel) rfl ?_
        refine g_getr f_Md_7 (by decide +kernel) (by omega) rfl rfl ?_
        refine g_sipush (a := 182) (by decide +kernel) (by decide) ?_
        refine g_iload (i := 6) (by decide +kernel) rfl ?_
        refine g_iadd (by decide +kernel) ?_
        refine g_iald (j := 182 + q) (by decide +kernel) (by omega) rfl (by omega) (by omega) (by decide) ?_
        refine g_aload_n (i := 0) (by decide +kernel) rfl ?_
        refine g_getr f_Md_7 (by decide +kernel) (by omega) rfl rfl ?_
        refine g_sipush (a := 170) (by decide +kernel) (by decide) ?_
        refine g_iload_n (i := 2) (by decide +kernel) rfl ?_
        refine g_iadd (by decide +kernel) ?_
        refine g_iald (j := (170 + k)) (by decide +kernel) (by omega) rfl (by omega) (by omega) (by decide) ?_
        refine g_icmp_eq (off := 6) (tgt := 72) (by decide +kernel) (by decide) ⟨by omega, by omega⟩ ⟨by omega, by omega⟩ (fun h66 => ?_) (fun h66 => ?_)
        · refine g_aload_n (i := 0) (by decide +kernel) rfl ?_
          refine g_getr f_Md_7 (by decide +kernel) (by omega) rfl rfl ?_
          refine g_sipush (a := 188) (by decide +kernel) (by decide) ?_
          refine g_iload (i := 6) (by decide +kernel) rfl ?_
          refine g_iadd (by decide +kernel) ?_
          refine g_iald (j := 188 + q) (by decide +kernel) (by omega) rfl (by omega) (by omega) (by decide) ?_
          refine g_iload_n (i := 3) (by decide +kernel) rfl ?_
          have J93 : ∀ v : Int, (∃ th : Nat, v = th ∧ th < 8 ∧ zSo2 σ S th (S 9 q) (o + 1)) → Go G X m_Md_byPress (2, 0, 0, 0, 0) n SH σ 93 [(0, vr G 189), (1, vi (s : Int)), (2, vi (k : Int)), (3, vi t), (4, vi (o : Int)), (5, vi (i : Int)), (6, vi (q : Int))] [vi v] (zL n SH (fun a σ' => a = zB0 S t k ∧ σ' = σ)) := by
            rintro v ⟨th, rfl, th8, hth⟩
            have c := hth o (by omega)
            have cs := zv_st (t := S 9 q) hM (show o < zN S by omega)
            have sR : ∀ j, j < o + 1 → zrl (σ 204 (12 * s + j)) ∧ zrl (σ 204 (12 * th + j)) := fun j hj => by
              have a := (hR j (by omega)).2.2.1
              have b := (hth j hj).2.2.1
              have a2 := (zv_rg (t := t) hM (show j < zN S by omega)).2
              have b2 := (zv_rg (t := S 9 q) hM (show j < zN S by omega)).2
              exact ⟨⟨by omega, by omega⟩, ⟨by omega, by omega⟩⟩
            have sm : zsame (S 2) (fun j => σ 204 (12 * s + j)) (fun j => σ 204 (12 * th + j)) 12 (o : Int) = zsame (S 2) (zv S t 3) (zv S (S 9 q) 3) 12 (o : Int) := zsame_cg (k := o + 1) (fun _ _ => rfl) (fun j hj => by have := hv.2.1 j (by omega); exact ⟨this.2.1, this.1⟩) (fun j hj => (hR j (by omega)).2.2.1) (fun j hj => (hth j hj).2.2.1) 12 o (by omega) (by push_cast; omega)
            refine g_istore (i := 7) (L' := [(0, _), (1, _), (2, _), (3, _), (4, _), (5, _), (6, _), (7, _)]) (by decide +kernel) rfl rfl ?_
            refine g_aload_n (i := 0) (by decide +kernel) rfl ?_
            refine g_getr f_Md_88 (by decide +kernel) (by omega) rfl rfl ?_
            refine g_bipush (a := 12) (by decide +kernel) (by decide) ?_
            refine g_iload (i := 7) (by decide +kernel) rfl ?_
            refine g_imul (by decide +kernel) ?_
            refine g_iload (i := 4) (by decide +kernel) rfl ?_
            refine g_iadd (by decide +kernel) ?_
            refine g_iald (j := ((12 * th) + o)) (by decide +kernel) (by omega) rfl (by omega) (by omega) (by decide) ?_
            refine g_iconst (a := 2) (by decide +kernel) ?_
            refine g_icmp_ne (off := 29) (tgt := 138) (by decide +kernel) (by decide) ⟨by omega, by omega⟩ ⟨by omega, by omega⟩ (fun h109 => ?_) (fun h109 => ?_)
            · refine g_iinc (i := 5) (b := 1) (L' := [(0, _), (1, _), (2, _), (3, _), (4, _), (5, _), (6, _), (7, _)]) (by decide +kernel) rfl rfl rfl ?_
              refine g_goto (off := -131) (tgt := 10) (by decide +kernel) (by decide) ?_
              refine ih (i + 1) _ [(6, vi (q : Int)), (7, vi (th : Int))] (by push_cast; rfl) (fun j hj => ?_) (Or.inr (Or.inr ⟨_, _, rfl⟩)) (by omega) (by omega)
              rcases Nat.lt_or_ge j i with z | z
              · exact hb j z
              · rw [show j = i by omega, bq]
                first
                  | (have z2 : ¬ zsame (S 2) (zv S t 3) (zv S (S 9 q) 3) 12 (o : Int) = true := h121
                     rw [Bool.eq_false_iff.mpr z2, Bool.and_false])
                  | rw [decide_eq_false (by omega), Bool.false_and]
            · refine g_aload_n (i := 0) (by decide +kernel) rfl ?_
              refine g_iload_n (i := 1) (by decide +kernel) rfl ?_
              refine g_iload (i := 7) (by decide +kernel) rfl ?_
              refine g_iload (i := 4) (by decide +kernel) rfl ?_
              refine g_cVI (st := _) (c_Md_samePasses (s := s) (p := th) (K := o + 1) (x := (o : Int)) hn hS hs8 th8 (by omega) sR ⟨by omega, by push_cast; omega⟩) k_Md_samePasses l_Md_344 (by decide +kernel) (by omega) rfl rfl rfl rfl (Nat.le_of_ble_eq_true rfl) (by decide) ⟨by decide, by decide⟩ ?_
              rintro a9 σ9 ⟨ea9, hσ9⟩
              obtain rfl := hσ9.symm
              rw [sm] at ea9
              subst ea9
              refine g_if_eq (off := 17) (tgt := 138) (by decide +kernel) (by decide) zbr (fun h121 => ?_) (fun h121 => ?_)
              · have h121 := zb0.mp h121
                refine g_iinc (i := 5) (b := 1) (L' := [(0, _), (1, _), (2, _), (3, _), (4, _), (5, _), (6, _), (7, _)]) (by decide +kernel) rfl rfl rfl ?_
                refine g_goto (off := -131) (tgt := 10) (by decide +kernel) (by decide) ?_
                refine ih (i + 1) _ [(6, vi (q : Int)), (7, vi (th : Int))] (by push_cast; rfl) (fun j hj => ?_) (Or.inr (Or.inr ⟨_, _, rfl⟩)) (by omega) (by omega)
                rcases Nat.lt_or_ge j i with z | z
                · exact hb j z
                · rw [show j = i by omega, bq]
                  first
                    | (have z2 : ¬ zsame (S 2) (zv S t 3) (zv S (S 9 q) 3) 12 (o : Int) = true := h121
                       rw [Bool.eq_false_iff.mpr z2, Bool.and_false])
                    | rw [decide_eq_false (by omega), Bool.false_and]
              · have h121 := zb1.mp h121
                refine g_aload_n (i := 0) (by decide +kernel) rfl ?_
                refine g_getr f_Md_91 (by decide +kernel) (by omega) rfl rfl ?_
                refine g_bipush (a := 12) (by decide +kernel) (by decide) ?_
                refine g_iload (i := 7) (by decide +kernel) rfl ?_
                refine g_imul (by decide +kernel) ?_
                refine g_iload (i := 4) (by decide +kernel) rfl ?_
                refine g_iadd (by decide +kernel) ?_
                refine g_lald (j := ((12 * th) + o)) (by decide +kernel) (by omega) rfl (by omega) (by omega) (by decide) ?_
                refine g_retL (by decide +kernel) rfl ⟨by decide, by decide⟩ ?_
                refine ⟨?_, rfl⟩
                have tr : zbq S t k i = true := by rw [bq, h121, decide_eq_true (by omega)]; rfl
                unfold zB0 zBq
                rw [zfst_at hb tr (show i < (S 0 8).toNat by omega), if_neg (by omega), Int.toNat_natCast, ← eq, ho, Int.toNat_natCast]
                exact c.2.1
          refine g_icmp_ne (off := 7) (tgt := 91) (by decide +kernel) (by decide) ⟨by omega, by omega⟩ ⟨by omega, by omega⟩ (fun h84 => ?_) (fun h84 => ?_)
          · refine g_iload (i := 5) (by decide +kernel) rfl ?_
            first
              | (have hz : σ 190 (188 + q) = t := h84
                 exact J93 _ ⟨s, rfl, hs8, fun j hj => by rw [show S 9 q = t by omega]; exact hR j (by omega)⟩)
              | exact J93 _ ⟨i, rfl, by omega, fun j hj => by rw [eq]; exact hP i hi2 (by rw [← eq]; omega) j (by omega)⟩
          · refine g_iload_n (i := 1) (by decide +kernel) rfl ?_
            refine g_goto (off := 5) (tgt := 93) (by decide +kernel) (by decide) ?_
            first
              | (have hz : σ 190 (188 + q) = t := h84
                 exact J93 _ ⟨s, rfl, hs8, fun j hj => by rw [show S 9 q = t by omega]; exact hR j (by omega)⟩)
              | exact J93 _ ⟨i, rfl, by omega, fun j hj => by rw [eq]; exact hP i hi2 (by rw [← eq]; omega) j (by omega)⟩
        · refine g_goto (off := 69) (tgt := 138) (by decide +kernel) (by decide) ?_
          refine g_iinc (i := 5) (b := 1) (L' := [(0, _), (1, _), (2, _), (3, _), (4, _), (5, _), (6, _)]) (by decide +kernel) rfl rfl rfl ?_
          refine g_goto (off := -131) (tgt := 10) (by decide +kernel) (by decide) ?_
          refine ih (i + 1) _ _ (by push_cast; rfl) (fun j hj => ?_) (by first | exact Or.inr (Or.inl ⟨_, rfl⟩) | exact Or.inr (Or.inr ⟨_, _, rfl⟩)) (by omega) (by omega)
          rcases Nat.lt_or_ge j i with z | z
          · exact hb j z
          · rw [show j = i by omega, bq]
            rw [decide_eq_false (by omega), Bool.false_and]
theorem c_Md_byPress {G : zG} {n : Nat} {σ : zSt} {S : zSt} {s K k : Nat} {t : Int} (hn : 220 ≤ n) (hx : zSx σ S s t K) (hk : k < zN S) (hK : S 2 k < K) (h3 : S 4 k = 3) (ht : 0 ≤ t ∧ t ≤ 1999)  : Gm G y_Md_byPress m_Md_byPress 2 0 0 [vr G 189, vi (s : Int), vi (k : Int), vi t] n SH σ (zL n SH (fun a σ' => a = zB0 S t k ∧ σ' = σ)) := by
  refine g_enter (L := [(0, _), (1, _), (2, _), (3, _)]) (by decide) rfl rfl rfl (Nat.le_of_ble_eq_true rfl) (fun X => ?_)
  obtain ⟨hM, ⟨hS, hL⟩, hO, hP, hR, hs8, hKN⟩ := id hx
  have e0 := hS.n
  have e8 := hS.p
  have hN := hS.N
  have hz : zN S = (S 0 0).toNat := rfl
  obtain ⟨d, r, hv⟩ := hM.1.1
  have ka := hS.ar hk
  have o1 := ((hv.2.2.1 k hk).2.2.2.2 (by omega)).1
  have tk := hv.2.1 k hk
  have nr : ¬ S 2 k = -1 := fun e => by have := tk.2.2.mpr e; omega
  obtain ⟨o, ho⟩ := Int.eq_ofNat_of_zero_le (show 0 ≤ S 2 k by omega)
  refine g_aload_n (i := 0) (by decide +kernel) rfl ?_
  refine g_iload_n (i := 2) (by decide +kernel) rfl ?_
  refine g_cVI (st := _) (c_Md_around (k := k) hn (by omega)) k_Md_around l_Md_169 (by decide +kernel) (by omega) rfl rfl rfl rfl (Nat.le_of_ble_eq_true rfl) (by decide) ⟨by decide, by decide⟩ ?_
  rintro a9 σ9 ⟨ea9, hσ9⟩
  obtain rfl := hσ9.symm
  subst ea9
  refine g_istore (i := 4) (L' := [(0, _), (1, _), (2, _), (3, _), (4, _)]) (by decide +kernel) rfl rfl ?_
  refine g_iconst (a := 0) (by decide +kernel) ?_
  refine g_istore (i := 5) (L' := [(0, _), (1, _), (2, _), (3, _), (4, _), (5, _)]) (by decide +kernel) rfl rfl ?_
  rw [ka, ho]
  exact w_Md_byPress hn hx hk hK h3 ht ho ((S 0 8).toNat + 1) 0 _ [] rfl (fun j hj => by omega) (Or.inl rfl) (by omega) (by omega)
theorem c_Md_beginAt {G : zG} {n : Nat} {σ : zSt} {S : zSt} {s K : Nat} {t : Int} {r : Nat → Nat} {d : Nat → Nat} (hn : 220 ≤ n) (hx : zSx σ S s t K) (hvr : zVal S d r) (ht : 0 ≤ t ∧ t ≤ 1999) : ∀ (f k : Nat), k < zN S → zrk S r k ≤ f → S 2 k < K → Gm G y_Md_beginAt m_Md_beginAt (3 + f) 0 0 [vr G 189, vi (s : Int), vi (k : Int), vi t] n SH σ (zL n SH (fun a σ' => a = zBK S t k ∧ σ' = σ)) := by
  intro f
  induction f with
  | zero =>
    intro k hk hf hK
    refine g_enter (L := [(0, _), (1, _), (2, _), (3, _)]) (by decide) rfl rfl rfl (Nat.le_of_ble_eq_true rfl) (fun X => ?_)
    obtain ⟨hM, ⟨hS, hL⟩, hO, hP, hR, hs8, hKN⟩ := id hx
    have e0 := hS.n
    have e8 := hS.p
    have hN := hS.N
    have hz : zN S = (S 0 0).toNat := rfl
    obtain ⟨d, r, hv⟩ := hM.1.1
    have c := hL k hk
    have kh := hS.hw hk
    have kr := hS.rg (show k < 12 by omega)
    refine g_aload_n (i := 0) (by decide +kernel) rfl ?_
    refine g_getr f_Md_23 (by decide +kernel) (by omega) rfl rfl ?_
    refine g_iload_n (i := 2) (by decide +kernel) rfl ?_
    refine g_zald (j := k) (by decide +kernel) (by omega) rfl (by omega) (by omega) (by decide) ?_
    refine g_if_ne (off := 10) (tgt := 16) (by decide +kernel) (by decide) ⟨by rw [c.2.2.2]; split <;> decide, by rw [c.2.2.2]; split <;> decide⟩ (fun h6 => ?_) (fun h6 => ?_)
    · have ok : zOk S k = true := by
        cases e : zOk S k with
        | true => rfl
        | false => rw [c.2.2.2, e] at h6; exact absurd rfl h6
      refine g_aload_n (i := 0) (by decide +kernel) rfl ?_
      refine g_getr f_Md_7 (by decide +kernel) (by omega) rfl rfl ?_
      refine g_sipush (a := 146) (by decide +kernel) (by decide) ?_
      refine g_iload_n (i := 2) (by decide +kernel) rfl ?_
      refine g_iadd (by decide +kernel) ?_
      refine g_iald (j := (146 + k)) (by decide +kernel) (by omega) rfl (by omega) (by omega) (by decide) ?_
      refine g_iconst (a := 3) (by decide +kernel) ?_
      refine g_icmp_ne (off := 11) (tgt := 38) (by decide +kernel) (by decide) ⟨by omega, by omega⟩ ⟨by omega, by omega⟩ (fun h27 => ?_) (fun h27 => ?_)
      · have hb : zby (S 4 k) = true := by
          have q := zOk_sp hM hk ok
          cases e : zby (S 4 k) with
          | true => rfl
          | false =>
            have := (zBg_own (ac := (zsa S).2) e).2
            rw [q.2.2.1] at this
            have := of_decide_eq_true this.symm
            omega
        have := zrk_lt hvr hk hb
        omega
      · refine g_aload_n (i := 0) (by decide +kernel) rfl ?_
        refine g_iload_n (i := 1) (by decide +kernel) rfl ?_
        refine g_iload_n (i := 2) (by decide +kernel) rfl ?_
        refine g_iload_n (i := 3) (by decide +kernel) rfl ?_
        refine g_cVL (st := []) (c_Md_byPress (k := k) hn hx hk hK (by omega) ht) k_Md_byPress l_Md_349 (by decide +kernel) (by omega) rfl rfl rfl rfl (Nat.le_of_ble_eq_true rfl) (by omega) ⟨Nat.le_refl _, Nat.le_refl _⟩ ?_
        rintro a9 σ9 ⟨ea9, hσ9⟩
        obtain rfl := hσ9.symm
        refine g_retL (by decide +kernel) rfl ⟨Nat.le_refl _, Nat.le_refl _⟩ ?_
        exact ⟨by rw [ea9, zBK_pr hM hk ok (by omega)], rfl⟩
    · refine g_aload_n (i := 0) (by decide +kernel) rfl ?_
      refine g_getr f_Md_20 (by decide +kernel) (by omega) rfl rfl ?_
      refine g_iload_n (i := 2) (by decide +kernel) rfl ?_
      refine g_lald (j := k) (by decide +kernel) (by omega) rfl (by omega) (by omega) (by decide) ?_
      refine g_retL (by decide +kernel) rfl ⟨Nat.le_refl _, Nat.le_refl _⟩ ?_
      have ok : zOk S k = false := by
        cases e : zOk S k with
        | false => rfl
        | true => rw [c.2.2.2, if_pos e] at h6; exact absurd h6 (by decide)
      exact ⟨by rw [zBK_eq, ok, c.2.2.1]; rfl, rfl⟩
  | succ f ih =>
    intro k hk hf hK
    refine g_enter (L := [(0, _), (1, _), (2, _), (3, _)]) (by decide) rfl rfl rfl (Nat.le_of_ble_eq_true rfl) (fun X => ?_)
    obtain ⟨hM, ⟨hS, hL⟩, hO, hP, hR, hs8, hKN⟩ := id hx
    have e0 := hS.n
    have e8 := hS.p
    have hN := hS.N
    have hz : zN S = (S 0 0).toNat := rfl
    obtain ⟨d, r, hv⟩ := hM.1.1
    have c := hL k hk
    have kh := hS.hw hk
    have ko := hS.ot hk
    have km := hS.mu hk
    have kr := hS.rg (show k < 12 by omega)
    refine g_aload_n (i := 0) (by decide +kernel) rfl ?_
    refine g_getr f_Md_23 (by decide +kernel) (by omega) rfl rfl ?_
    refine g_iload_n (i := 2) (by decide +kernel) rfl ?_
    refine g_zald (j := k) (by decide +kernel) (by omega) rfl (by omega) (by omega) (by decide) ?_
    refine g_if_ne (off := 10) (tgt := 16) (by decide +kernel) (by decide) ⟨by rw [c.2.2.2]; split <;> decide, by rw [c.2.2.2]; split <;> decide⟩ (fun h6 => ?_) (fun h6 => ?_)
    · have ok : zOk S k = true := by
        cases e : zOk S k with
        | true => rfl
        | false => rw [c.2.2.2, e] at h6; exact absurd rfl h6
      refine g_aload_n (i := 0) (by decide +kernel) rfl ?_
      refine g_getr f_Md_7 (by decide +kernel) (by omega) rfl rfl ?_
      refine g_sipush (a := 146) (by decide +kernel) (by decide) ?_
      refine g_iload_n (i := 2) (by decide +kernel) rfl ?_
      refine g_iadd (by decide +kernel) ?_
      refine g_iald (j := (146 + k)) (by decide +kernel) (by omega) rfl (by omega) (by omega) (by decide) ?_
      refine g_iconst (a := 3) (by decide +kernel) ?_
      refine g_icmp_ne (off := 11) (tgt := 38) (by decide +kernel) (by decide) ⟨by omega, by omega⟩ ⟨by omega, by omega⟩ (fun h27 => ?_) (fun h27 => ?_)
      · have hb : zby (S 4 k) = true := by
          have q := zOk_sp hM hk ok
          cases e : zby (S 4 k) with
          | true => rfl
          | false =>
            have := (zBg_own (ac := (zsa S).2) e).2
            rw [q.2.2.1] at this
            have := of_decide_eq_true this.symm
            omega
        have rk := zrk_lt hvr hk hb
        have ot := hv.oth hk hb
        have B := zBK_by (t := t) hM hk ok hb
        obtain ⟨o, eo⟩ : ∃ o : Nat, S 5 k = o := ⟨(S 5 k).toNat, by omega⟩
        rw [eo, Int.toNat_natCast] at rk ot B
        have c2 := hL o ot.2.1
        refine g_aload_n (i := 0) (by decide +kernel) rfl ?_
        refine g_getr f_Md_7 (by decide +kernel) (by omega) rfl rfl ?_
        refine g_sipush (a := 158) (by decide +kernel) (by decide) ?_
        refine g_iload_n (i := 2) (by decide +kernel) rfl ?_
        refine g_iadd (by decide +kernel) ?_
        refine g_iald (j := (158 + k)) (by decide +kernel) (by omega) rfl (by omega) (by omega) (by decide) ?_
        rw [ko, eo]
        refine g_istore (i := 4) (L' := [(0, _), (1, _), (2, _), (3, _), (4, _)]) (by decide +kernel) rfl rfl ?_
        refine g_aload_n (i := 0) (by decide +kernel) rfl ?_
        refine g_iload_n (i := 1) (by decide +kernel) rfl ?_
        refine g_iload (i := 4) (by decide +kernel) rfl ?_
        refine g_iload_n (i := 3) (by decide +kernel) rfl ?_
        refine g_cVL (st := []) (ih o ot.2.1 (by omega) (by rw [ot.2.2.1]; exact hK)) k_Md_beginAt l_Md_353 (by decide +kernel) (by omega) rfl rfl rfl rfl (Nat.le_of_ble_eq_true rfl) (by omega) ⟨Nat.le_refl _, Nat.le_refl _⟩ ?_
        rintro a9 σ9 ⟨ea9, hσ9⟩
        obtain rfl := hσ9.symm
        have bi := zBK_in (t := t) hM ot.2.1
        rw [← ea9] at bi
        refine g_lstore (i := 5) (L' := [(0, _), (1, _), (2, _), (3, _), (4, _), (5, _)]) (by decide +kernel) rfl rfl ?_
        refine g_lload (i := 5) (by decide +kernel) rfl ?_
        refine g_lconst (c := 0) (a := 0) (by decide +kernel) (by decide) ?_
        refine g_lcmp (by decide +kernel) ⟨by omega, by omega⟩ ⟨by omega, by omega⟩ ?_
        refine g_if_ge (off := 9) (tgt := 73) (by decide +kernel) (by decide) zcmp_r (fun h64 => ?_) (fun h64 => ?_)
        · have h64 := zcmp_ge.mp h64
          refine g_lload (i := 5) (by decide +kernel) rfl ?_
          refine g_aload_n (i := 0) (by decide +kernel) rfl ?_
          refine g_getr f_Md_7 (by decide +kernel) (by omega) rfl rfl ?_
          refine g_sipush (a := 170) (by decide +kernel) (by decide) ?_
          refine g_iload_n (i := 2) (by decide +kernel) rfl ?_
          refine g_iadd (by decide +kernel) ?_
          refine g_iald (j := (170 + k)) (by decide +kernel) (by omega) rfl (by omega) (by omega) (by decide) ?_
          refine g_i2l (by decide +kernel) ⟨by omega, by omega⟩ ?_
          refine g_ladd (by decide +kernel) ?_
          refine g_aload_n (i := 0) (by decide +kernel) rfl ?_
          refine g_getr f_Md_7 (by decide +kernel) (by omega) rfl rfl ?_
          refine g_sipush (a := 146) (by decide +kernel) (by decide) ?_
          refine g_iload_n (i := 2) (by decide +kernel) rfl ?_
          refine g_iadd (by decide +kernel) ?_
          refine g_iald (j := (146 + k)) (by decide +kernel) (by omega) rfl (by omega) (by omega) (by decide) ?_
          refine g_iconst (a := 2) (by decide +kernel) ?_
          refine g_icmp_ne (off := 13) (tgt := 111) (by decide +kernel) (by decide) ⟨by omega, by omega⟩ ⟨by omega, by omega⟩ (fun h98 => ?_) (fun h98 => ?_)
          · refine g_lconst (c := 0) (a := 0) (by decide +kernel) (by decide) ?_
            refine g_ladd (by decide +kernel) ?_
            refine g_retL (by decide +kernel) rfl ⟨Nat.le_refl _, Nat.le_refl _⟩ ?_
            refine ⟨?_, rfl⟩
            rw [B.2, ← ea9]
            first
              | (have hz : a9 < 0 := h64
                 rw [if_pos hz])
              | (have hz2 : σ 190 (146 + k) = 2 := h98
                 rw [if_neg (by omega), if_pos (by omega), km, c2.2.1])
              | (rw [if_neg (by omega), if_neg (by omega), km])
          · refine g_aload_n (i := 0) (by decide +kernel) rfl ?_
            refine g_getr f_Md_17 (by decide +kernel) (by omega) rfl rfl ?_
            refine g_iload (i := 4) (by decide +kernel) rfl ?_
            refine g_lald (j := o) (by decide +kernel) (by omega) rfl (by omega) (by omega) (by decide) ?_
            refine g_goto (off := 4) (tgt := 112) (by decide +kernel) (by decide) ?_
            refine g_ladd (by decide +kernel) ?_
            refine g_retL (by decide +kernel) rfl ⟨Nat.le_refl _, Nat.le_refl _⟩ ?_
            refine ⟨?_, rfl⟩
            rw [B.2, ← ea9]
            first
              | (have hz : a9 < 0 := h64
                 rw [if_pos hz])
              | (have hz2 : σ 190 (146 + k) = 2 := h98
                 rw [if_neg (by omega), if_pos (by omega), km, c2.2.1])
              | (rw [if_neg (by omega), if_neg (by omega), km])
        · have h64 := zcmp_lt.mp h64
          refine g_ldc2 (x := 347) (a := -1) (by decide +kernel) c_Md_347 (by decide) ?_
          refine g_goto (off := 43) (tgt := 113) (by decide +kernel) (by decide) ?_
          refine g_retL (by decide +kernel) rfl ⟨Nat.le_refl _, Nat.le_refl _⟩ ?_
          refine ⟨?_, rfl⟩
          rw [B.2, ← ea9]
          first
            | (have hz : a9 < 0 := h64
               rw [if_pos hz])
            | (have hz2 : σ 190 (146 + k) = 2 := h98
               rw [if_neg (by omega), if_pos (by omega), km, c2.2.1])
            | (rw [if_neg (by omega), if_neg (by omega), km])
      · refine g_aload_n (i := 0) (by decide +kernel) rfl ?_
        refine g_iload_n (i := 1) (by decide +kernel) rfl ?_
        refine g_iload_n (i := 2) (by decide +kernel) rfl ?_
        refine g_iload_n (i := 3) (by decide +kernel) rfl ?_
        refine g_cVL (st := []) (c_Md_byPress (k := k) hn hx hk hK (by omega) ht) k_Md_byPress l_Md_349 (by decide +kernel) (by omega) rfl rfl rfl rfl (Nat.le_of_ble_eq_true rfl) (by omega) ⟨Nat.le_refl _, Nat.le_refl _⟩ ?_
        rintro a9 σ9 ⟨ea9, hσ9⟩
        obtain rfl := hσ9.symm
        refine g_retL (by decide +kernel) rfl ⟨Nat.le_refl _, Nat.le_refl _⟩ ?_
        exact ⟨by rw [ea9, zBK_pr hM hk ok (by omega)], rfl⟩
    · refine g_aload_n (i := 0) (by decide +kernel) rfl ?_
      refine g_getr f_Md_20 (by decide +kernel) (by omega) rfl rfl ?_
      refine g_iload_n (i := 2) (by decide +kernel) rfl ?_
      refine g_lald (j := k) (by decide +kernel) (by omega) rfl (by omega) (by omega) (by decide) ?_
      refine g_retL (by decide +kernel) rfl ⟨Nat.le_refl _, Nat.le_refl _⟩ ?_
      have ok : zOk S k = false := by
        cases e : zOk S k with
        | false => rfl
        | true => rw [c.2.2.2, if_pos e] at h6; exact absurd h6 (by decide)
      exact ⟨by rw [zBK_eq, ok, c.2.2.1]; rfl, rfl⟩
