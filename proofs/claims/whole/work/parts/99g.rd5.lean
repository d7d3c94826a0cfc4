/-! READING: marks and starts -/
theorem zTab_r9 : ∀ w, w < 9 → (0 ≤ zTab 2 w ∧ zTab 2 w ≤ 999) ∧ 0 ≤ zTab 1 w ∧ zTab 1 w ≤ 999 := by decide
theorem zAi.tok {n0 q : Nat} {A : zAb} (h : zAi n0 A) (hq : q ≤ n0) : zAi n0 (zAm q A.D A.nm A.sn A.td A.op A.mk) := ⟨hq, h.2⟩
/-- the draft changes in a mark of clip k -/
theorem zRc.m7 {b : Nat → Int} {n0 j : Nat} {σ0 σ : zSt} {A : zAb} {v : Int} (h : zRc b n0 σ0 A σ) : zRc b n0 σ0 (zAm A.q (zs A.D 7 j v) A.nm A.sn A.td A.op A.mk) (zs σ 18 j v) := h.drf (fun a ha => by rw [zs_other (by omega)]) (h.2.2.2.2.1.put (r := 7) (by decide))
theorem zAi.m7 {n0 j : Nat} {A : zAb} {v : Int} (h : zAi n0 A) (hv : 0 ≤ v ∧ v ≤ 999) : zAi n0 (zAm A.q (zs A.D 7 j v) A.nm A.sn A.td A.op A.mk) := ⟨h.1, h.2.1.mk7 hv, h.2.2.1, h.2.2.2.1, h.2.2.2.2.1, h.2.2.2.2.2⟩
theorem zRc.m456 {b : Nat → Int} {n0 j : Nat} {σ0 σ : zSt} {A : zAb} {x y v : Int} (h : zRc b n0 σ0 A σ) : zRc b n0 σ0 (zAm A.q (zs (zs (zs A.D 4 j x) 5 j y) 6 j v) A.nm A.sn A.td A.op A.mk) (zs (zs (zs σ 15 j x) 16 j y) 17 j v) := h.drf (fun a ha => by rw [zs_other (by omega), zs_other (by omega), zs_other (by omega)]) (((h.2.2.2.2.1.put (r := 4) (by decide)).put (r := 5) (by decide)).put (r := 6) (by decide))
theorem zAi.m456 {n0 j : Nat} {A : zAb} {x y v : Int} (h : zAi n0 A) (hx : 0 ≤ x ∧ x ≤ 3) (hy : -1 ≤ y ∧ y ≤ 11) (hv : 0 ≤ v ∧ v ≤ 999) : zAi n0 (zAm A.q (zs (zs (zs A.D 4 j x) 5 j y) 6 j v) A.nm A.sn A.td A.op A.mk) := ⟨h.1, h.2.1.mk456 hx hy hv, h.2.2.1, h.2.2.2.1, h.2.2.2.2.1, h.2.2.2.2.2⟩
theorem c_Rd_readMarkNumber {G : zG} {n : Nat} {σ σ0 : zSt} {b : Nat → Int} {n0 : Nat} {A : zAb} (hn : 189 ≤ n) (hb : zBt b) (hn0 : n0 ≤ 600) (hR : zRc b n0 σ0 A σ) (hA : zAi n0 A) {k : Nat} (hk : A.mk = (k : Int)) {w : Nat} (hw : w < 9)  : Gm G y_Rd_readMarkNumber m_Rd_readMarkNumber 3 0 0 [vr G 179, vi (k : Int), vi (w : Int)] n SH σ (zI n SH (fun a σ' => zRo b n0 σ0 (zpM b n0 A k w) a σ')) := by
  refine g_enter (L := [(0, _), (1, _), (2, _)]) (by decide) rfl rfl rfl (Nat.le_of_ble_eq_true rfl) (fun X => ?_)
  have hq := hA.1
  have hG := hA.2.1
  have nr := znx_r (b := b) hq
  obtain ⟨⟨a1, a2⟩, ⟨a3, a3b, a3c, a3d⟩, ⟨a4, a5, a6, a7, a8⟩, ⟨a9, a10⟩, a11, a12⟩ := id hR
  have tr := @zTt_r b n0 A.q
  have tb := zTb_r (b := b) hq
  have hB : zBt (σ 178) := by rw [a2]; exact hb
  have mk2 := hA.2.2.2.1
  have hD12 : A.D 0 0 ≤ 12 := hG.1.2.1
  have k12 : k < 12 := by omega
  have tr9 := zTab_r9 w hw
  refine g_aload_n (i := 0) (by decide +kernel) rfl ?_
  refine g_cVV (st := _) (c_Rd_takeToken (n0 := n0) (p := zTb b n0 (A.q)) hn (by rw [hR.1.2]; exact hb) hR.1.1 hn0 (zTb_r hq).2 hR.2.1.2.2.1) k_Rd_takeToken l_Rd_54 (by decide +kernel) (by omega) rfl rfl rfl rfl (Nat.le_of_ble_eq_true rfl) (by decide) ⟨by decide, by decide⟩ ?_
  rintro υ9 hk9
  have hF := hR.next hk9
  have hAF := hA.tok nr.2
  refine g_iload_n (i := 2) (by decide +kernel) rfl ?_
  refine g_iconst (a := 4) (by decide +kernel) ?_
  refine g_icmp_eq (off := 8) (tgt := 14) (by decide +kernel) (by decide) ⟨by omega, by omega⟩ ⟨by omega, by omega⟩ (fun h6 => ?_) (fun h6 => ?_)
  · refine g_aload_n (i := 0) (by decide +kernel) rfl ?_
    refine g_getr f_Rd_22 (by decide +kernel) (by omega) rfl rfl ?_
    refine g_iload_n (i := 1) (by decide +kernel) rfl ?_
    refine g_iload_n (i := 2) (by decide +kernel) rfl ?_
    refine g_iconst (a := 1) (by decide +kernel) ?_
    refine g_cVV (st := _) (c_Sh_putMark (b := 11) (k := k) (w := w) hn sh_11 k12 hw) k_Sh_putMark l_Rd_140 (by decide +kernel) (by omega) rfl rfl rfl rfl (Nat.le_of_ble_eq_true rfl) (by decide) ⟨by decide, by decide⟩ ?_
    rintro υ8 hυ8
    have hG2 := hF.m7 (j := 9 * k + w) (v := 1)
    rw [← hυ8] at hG2
    refine g_iconst (a := 1) (by decide +kernel) ?_
    refine g_retI (by decide +kernel) rfl (Or.inr ⟨rfl, by omega⟩) ⟨by decide, by decide⟩ ?_
    show zRo _ _ _ _ _ _
    unfold zpM
    rw [if_pos (by omega)]
    exact ⟨rfl, hG2, hAF.m7 (by decide)⟩
  · refine g_iload_n (i := 2) (by decide +kernel) rfl ?_
    refine g_iconst (a := 5) (by decide +kernel) ?_
    refine g_icmp_ne (off := 15) (tgt := 26) (by decide +kernel) (by decide) ⟨by omega, by omega⟩ ⟨by omega, by omega⟩ (fun h11 => ?_) (fun h11 => ?_)
    · refine g_aload_n (i := 0) (by decide +kernel) rfl ?_
      refine g_getsN (x := 144) 2 (by decide) (by decide +kernel) (by decide) ?_
      refine g_iload_n (i := 2) (by decide +kernel) rfl ?_
      refine g_tald 2 (by decide) (j := w) (by decide +kernel) rfl (by show _ < 9; omega) ?_
      refine g_getsN (x := 147) 1 (by decide) (by decide +kernel) (by decide) ?_
      refine g_iload_n (i := 2) (by decide +kernel) rfl ?_
      refine g_tald 1 (by decide) (j := w) (by decide +kernel) rfl (by show _ < 9; omega) ?_
      refine g_cVI (st := _) (c_Rd_mayBeNumber hn hb hn0 hF hAF.1 hAF.2.1 ⟨by omega, by omega⟩ ⟨by omega, by omega⟩) k_Rd_mayBeNumber l_Rd_150 (by decide +kernel) (by omega) rfl rfl rfl rfl (Nat.le_of_ble_eq_true rfl) (by decide) ⟨by decide, by decide⟩ ?_
      rintro a8 σ8 hres
      have ea8 : a8 = 0 ∨ a8 = 1 := by
        rcases hres with hh | hh
        · exact Or.inr hh.2.1
        · exact Or.inl hh.2.1
      refine g_if_ne (off := 5) (tgt := 45) (by decide +kernel) (by decide) ⟨by omega, by omega⟩ (fun h40 => ?_) (fun h40 => ?_)
      · have hr2 := hres.resolve_right (fun hh => absurd hh.2.1 h40)
        obtain ⟨⟨c1, c2, c3⟩, -, hs9⟩ := hr2
        obtain rfl := hs9.symm
        have f7 : υ9 179 7 = zTs b n0 (znx b n0 A.q) := hF.2.1.2.2.2
        refine g_aload_n (i := 0) (by decide +kernel) rfl ?_
        refine g_getr f_Rd_22 (by decide +kernel) (by omega) rfl rfl ?_
        refine g_iload_n (i := 1) (by decide +kernel) rfl ?_
        refine g_iload_n (i := 2) (by decide +kernel) rfl ?_
        refine g_aload_n (i := 0) (by decide +kernel) rfl ?_
        refine g_getl f_Rd_117 (by decide +kernel) (by omega) rfl rfl ?_
        rw [f7]
        refine g_l2i (by decide +kernel) ?_
        refine g_cVV (st := _) (c_Sh_putMark (b := 11) (k := k) (w := w) hn sh_11 k12 hw) k_Sh_putMark l_Rd_140 (by decide +kernel) (by omega) rfl rfl rfl rfl (Nat.le_of_ble_eq_true rfl) (by decide) ⟨by decide, by decide⟩ ?_
        rintro υ8 hυ8
        have hG2 := hF.m7 (j := 9 * k + w) (v := zTs b n0 (znx b n0 A.q))
        rw [← hυ8] at hG2
        refine g_aload_n (i := 0) (by decide +kernel) rfl ?_
        refine g_cVV (st := _) (c_Rd_takeToken (n0 := n0) (p := zTb b n0 (znx b n0 A.q)) hn (by rw [hG2.1.2]; exact hb) hG2.1.1 hn0 (zTb_r nr.2).2 hG2.2.1.2.2.1) k_Rd_takeToken l_Rd_54 (by decide +kernel) (by omega) rfl rfl rfl rfl (Nat.le_of_ble_eq_true rfl) (by decide) ⟨by decide, by decide⟩ ?_
        rintro ψ9 hk9
        have hG3 := hG2.next hk9
        refine g_iconst (a := 1) (by decide +kernel) ?_
        refine g_retI (by decide +kernel) rfl (Or.inr ⟨rfl, by omega⟩) ⟨by decide, by decide⟩ ?_
        show zRo _ _ _ _ _ _
        unfold zpM
        rw [if_neg (by omega), if_neg (fun y => y ⟨c1, c2, c3⟩)]
        exact ⟨rfl, hG3, (hAF.m7 ⟨by show 0 ≤ zTs b n0 (znx b n0 A.q); have c2' : zTab 2 w ≤ zTs b n0 (znx b n0 A.q) := c2; omega, by show zTs b n0 (znx b n0 A.q) ≤ 999; have c3' : zTs b n0 (znx b n0 A.q) ≤ zTab 1 w := c3; omega⟩).tok (znx_r nr.2).2⟩
      · refine g_iconst (a := 0) (by decide +kernel) ?_
        refine g_retI (by decide +kernel) rfl (Or.inr ⟨rfl, by omega⟩) ⟨by decide, by decide⟩ ?_
        rcases hres with ⟨h1, e, hs9⟩ | ⟨h1, h2⟩
        · exact absurd e (by omega)
        · show zRo _ _ _ _ _ _
          unfold zpM
          rw [if_neg (by omega), if_pos h1]
          have ea : a8 = 0 := h2.1
          rw [← ea]
          exact h2
    · refine g_aload_n (i := 0) (by decide +kernel) rfl ?_
      refine g_getr f_Rd_22 (by decide +kernel) (by omega) rfl rfl ?_
      refine g_iload_n (i := 1) (by decide +kernel) rfl ?_
      refine g_iload_n (i := 2) (by decide +kernel) rfl ?_
      refine g_iconst (a := 1) (by decide +kernel) ?_
      refine g_cVV (st := _) (c_Sh_putMark (b := 11) (k := k) (w := w) hn sh_11 k12 hw) k_Sh_putMark l_Rd_140 (by decide +kernel) (by omega) rfl rfl rfl rfl (Nat.le_of_ble_eq_true rfl) (by decide) ⟨by decide, by decide⟩ ?_
      rintro υ8 hυ8
      have hG2 := hF.m7 (j := 9 * k + w) (v := 1)
      rw [← hυ8] at hG2
      refine g_iconst (a := 1) (by decide +kernel) ?_
      refine g_retI (by decide +kernel) rfl (Or.inr ⟨rfl, by omega⟩) ⟨by decide, by decide⟩ ?_
      show zRo _ _ _ _ _ _
      unfold zpM
      rw [if_pos (by omega)]
      exact ⟨rfl, hG2, hAF.m7 (by decide)⟩
theorem c_Rd_readStart {G : zG} {n : Nat} {σ σ0 : zSt} {b : Nat → Int} {n0 : Nat} {A : zAb} (hn : 189 ≤ n) (hb : zBt b) (hn0 : n0 ≤ 600) (hR : zRc b n0 σ0 A σ) (hA : zAi n0 A) {k : Nat} (hk : A.mk = (k : Int)) {h : Int} (hh : 0 ≤ h ∧ h ≤ 3)  : Gm G y_Rd_readStart m_Rd_readStart 6 0 0 [vr G 179, vi (k : Int), vi h] n SH σ (zI n SH (fun a σ' => zRo b n0 σ0 (zpB b n0 A k h) a σ')) := by
  refine g_enter (L := [(0, _), (1, _), (2, _)]) (by decide) rfl rfl rfl (Nat.le_of_ble_eq_true rfl) (fun X => ?_)
  have hq := hA.1
  have hG := hA.2.1
  have nr := znx_r (b := b) hq
  obtain ⟨⟨a1, a2⟩, ⟨a3, a3b, a3c, a3d⟩, ⟨a4, a5, a6, a7, a8⟩, ⟨a9, a10⟩, a11, a12⟩ := id hR
  have tr := @zTt_r b n0 A.q
  have tb := zTb_r (b := b) hq
  have hB : zBt (σ 178) := by rw [a2]; exact hb
  have mk2 := hA.2.2.2.1
  have hD12 : A.D 0 0 ≤ 12 := hG.1.2.1
  have k12 : k < 12 := by omega
  have gd : zGood σ 11 := zGood_rows a11 hG
  have e1 : σ 12 = A.D 1 := a11 1 (by decide)
  have e2 : σ 13 = A.D 2 := a11 2 (by decide)
  have J61 : ∀ (A2 : zAb) (υ : zSt), zRc b n0 σ0 A2 υ → zAi n0 A2 → zpB b n0 A k h = zpT b n0 A2 k h → Go G X m_Rd_readStart (6, 0, 0, 0, 0) n SH υ 61 [(0, vr G 179), (1, vi (k : Int)), (2, vi h)] [] (zI n SH (fun a σ' => zRo b n0 σ0 (zpB b n0 A k h) a σ')) := by
    intro A2 υ hF hAF eB
    have sr2 := fun y => zTs_nr (b := b) (n0 := n0) (q := A2.q) y
    refine g_aload_n (i := 0) (by decide +kernel) rfl ?_
    refine g_iconst (a := 0) (by decide +kernel) ?_
    refine g_iload_n (i := 2) (by decide +kernel) rfl ?_
    refine g_iconst (a := 3) (by decide +kernel) ?_
    refine g_icmp_ne (off := 7) (tgt := 72) (by decide +kernel) (by decide) ⟨by omega, by omega⟩ ⟨by omega, by omega⟩ (fun h65 => ?_) (fun h65 => ?_)
    · refine g_sipush (a := 999) (by decide +kernel) (by decide) ?_
      refine g_cVI (st := _) (c_Rd_mayBeNumber hn hb hn0 hF hAF.1 hAF.2.1 ⟨by omega, by omega⟩ ⟨by omega, by omega⟩) k_Rd_mayBeNumber l_Rd_150 (by decide +kernel) (by omega) rfl rfl rfl rfl (Nat.le_of_ble_eq_true rfl) (by decide) ⟨by decide, by decide⟩ ?_
      rintro a8 σ8 hres
      have ea8 : a8 = 0 ∨ a8 = 1 := by
        rcases hres with hh | hh
        · exact Or.inr hh.2.1
        · exact Or.inl hh.2.1
      refine g_if_ne (off := 5) (tgt := 83) (by decide +kernel) (by decide) ⟨by omega, by omega⟩ (fun h78 => ?_) (fun h78 => ?_)
      · have hr2 := hres.resolve_right (fun hh => absurd hh.2.1 h78)
        obtain ⟨⟨c1, c2, c3⟩, -, hs9⟩ := hr2
        obtain rfl := hs9.symm
        have f7 : υ 179 7 = zTs b n0 A2.q := hF.2.1.2.2.2
        refine g_aload_n (i := 0) (by decide +kernel) rfl ?_
        refine g_getr f_Rd_22 (by decide +kernel) (by omega) rfl rfl ?_
        refine g_iload_n (i := 1) (by decide +kernel) rfl ?_
        refine g_iload_n (i := 2) (by decide +kernel) rfl ?_
        refine g_iconst (a := -1) (by decide +kernel) ?_
        refine g_aload_n (i := 0) (by decide +kernel) rfl ?_
        refine g_getl f_Rd_117 (by decide +kernel) (by omega) rfl rfl ?_
        rw [f7]
        refine g_l2i (by decide +kernel) ?_
        refine g_cVV (st := _) (c_Sh_putStart (b := 11) (k := k) hn sh_11 k12) k_Sh_putStart l_Rd_156 (by decide +kernel) (by omega) rfl rfl rfl rfl (Nat.le_of_ble_eq_true rfl) (by decide) ⟨by decide, by decide⟩ ?_
        rintro υ8 hυ8
        have hG2 := hF.m456 (j := k) (x := h) (y := -1) (v := zTs b n0 A2.q)
        rw [← hυ8] at hG2
        refine g_aload_n (i := 0) (by decide +kernel) rfl ?_
        refine g_cVV (st := _) (c_Rd_takeToken (n0 := n0) (p := zTb b n0 (A2.q)) hn (by rw [hG2.1.2]; exact hb) hG2.1.1 hn0 (zTb_r hAF.1).2 hG2.2.1.2.2.1) k_Rd_takeToken l_Rd_54 (by decide +kernel) (by omega) rfl rfl rfl rfl (Nat.le_of_ble_eq_true rfl) (by decide) ⟨by decide, by decide⟩ ?_
        rintro ψ9 hk9
        have hG3 := hG2.next hk9
        refine g_iconst (a := 1) (by decide +kernel) ?_
        refine g_retI (by decide +kernel) rfl (Or.inr ⟨rfl, by omega⟩) ⟨by decide, by decide⟩ ?_
        show zRo _ _ _ _ _ _
        rw [eB]
        unfold zpT
        have s999 : 0 ≤ zTs b n0 A2.q ∧ zTs b n0 A2.q ≤ 999 := ⟨c2, by have c3' := c3; omega⟩
        first
          | rw [if_pos (show h = 3 by omega)]
          | rw [if_neg (show ¬ h = 3 by omega)]
        rw [if_neg (fun y => y ⟨c1, c2, c3⟩)]
        exact ⟨rfl, hG3, (hAF.m456 hh (by decide) s999).tok (znx_r hAF.1).2⟩
      · refine g_iconst (a := 0) (by decide +kernel) ?_
        refine g_retI (by decide +kernel) rfl (Or.inr ⟨rfl, by omega⟩) ⟨by decide, by decide⟩ ?_
        rcases hres with ⟨h1, e, hs9⟩ | ⟨h1, h2⟩
        · exact absurd e (by omega)
        · show zRo _ _ _ _ _ _
          rw [eB]
          unfold zpT
          first
            | rw [if_pos (show h = 3 by omega)]
            | rw [if_neg (show ¬ h = 3 by omega)]
          rw [if_pos h1]
          have ea : a8 = 0 := h2.1
          rw [← ea]
          exact h2
    · refine g_iconst (a := 3) (by decide +kernel) ?_
      refine g_goto (off := 6) (tgt := 75) (by decide +kernel) (by decide) ?_
      refine g_cVI (st := _) (c_Rd_mayBeNumber hn hb hn0 hF hAF.1 hAF.2.1 ⟨by omega, by omega⟩ ⟨by omega, by omega⟩) k_Rd_mayBeNumber l_Rd_150 (by decide +kernel) (by omega) rfl rfl rfl rfl (Nat.le_of_ble_eq_true rfl) (by decide) ⟨by decide, by decide⟩ ?_
      rintro a8 σ8 hres
      have ea8 : a8 = 0 ∨ a8 = 1 := by
        rcases hres with hh | hh
        · exact Or.inr hh.2.1
        · exact Or.inl hh.2.1
      refine g_if_ne (off := 5) (tgt := 83) (by decide +kernel) (by decide) ⟨by omega, by omega⟩ (fun h78 => ?_) (fun h78 => ?_)
      · have hr2 := hres.resolve_right (fun hh => absurd hh.2.1 h78)
        obtain ⟨⟨c1, c2, c3⟩, -, hs9⟩ := hr2
        obtain rfl := hs9.symm
        have f7 : υ 179 7 = zTs b n0 A2.q := hF.2.1.2.2.2
        refine g_aload_n (i := 0) (by decide +kernel) rfl ?_
        refine g_getr f_Rd_22 (by decide +kernel) (by omega) rfl rfl ?_
        refine g_iload_n (i := 1) (by decide +kernel) rfl ?_
        refine g_iload_n (i := 2) (by decide +kernel) rfl ?_
        refine g_iconst (a := -1) (by decide +kernel) ?_
        refine g_aload_n (i := 0) (by decide +kernel) rfl ?_
        refine g_getl f_Rd_117 (by decide +kernel) (by omega) rfl rfl ?_
        rw [f7]
        refine g_l2i (by decide +kernel) ?_
        refine g_cVV (st := _) (c_Sh_putStart (b := 11) (k := k) hn sh_11 k12) k_Sh_putStart l_Rd_156 (by decide +kernel) (by omega) rfl rfl rfl rfl (Nat.le_of_ble_eq_true rfl) (by decide) ⟨by decide, by decide⟩ ?_
        rintro υ8 hυ8
        have hG2 := hF.m456 (j := k) (x := h) (y := -1) (v := zTs b n0 A2.q)
        rw [← hυ8] at hG2
        refine g_aload_n (i := 0) (by decide +kernel) rfl ?_
        refine g_cVV (st := _) (c_Rd_takeToken (n0 := n0) (p := zTb b n0 (A2.q)) hn (by rw [hG2.1.2]; exact hb) hG2.1.1 hn0 (zTb_r hAF.1).2 hG2.2.1.2.2.1) k_Rd_takeToken l_Rd_54 (by decide +kernel) (by omega) rfl rfl rfl rfl (Nat.le_of_ble_eq_true rfl) (by decide) ⟨by decide, by decide⟩ ?_
        rintro ψ9 hk9
        have hG3 := hG2.next hk9
        refine g_iconst (a := 1) (by decide +kernel) ?_
        refine g_retI (by decide +kernel) rfl (Or.inr ⟨rfl, by omega⟩) ⟨by decide, by decide⟩ ?_
        show zRo _ _ _ _ _ _
        rw [eB]
        unfold zpT
        have s999 : 0 ≤ zTs b n0 A2.q ∧ zTs b n0 A2.q ≤ 999 := ⟨c2, by have c3' := c3; omega⟩
        first
          | rw [if_pos (show h = 3 by omega)]
          | rw [if_neg (show ¬ h = 3 by omega)]
        rw [if_neg (fun y => y ⟨c1, c2, c3⟩)]
        exact ⟨rfl, hG3, (hAF.m456 hh (by decide) s999).tok (znx_r hAF.1).2⟩
      · refine g_iconst (a := 0) (by decide +kernel) ?_
        refine g_retI (by decide +kernel) rfl (Or.inr ⟨rfl, by omega⟩) ⟨by decide, by decide⟩ ?_
        rcases hres with ⟨h1, e, hs9⟩ | ⟨h1, h2⟩
        · exact absurd e (by omega)
        · show zRo _ _ _ _ _ _
          rw [eB]
          unfold zpT
          first
            | rw [if_pos (show h = 3 by omega)]
            | rw [if_neg (show ¬ h = 3 by omega)]
          rw [if_pos h1]
          have ea : a8 = 0 := h2.1
          rw [← ea]
          exact h2
  have J21 : ¬ (h ≠ 0 ∧ ¬ (A.D 2 k ≠ -1 ∧ A.D 1 (A.D 2 k).toNat = 1)) → Go G X m_Rd_readStart (6, 0, 0, 0, 0) n SH σ 21 [(0, vr G 179), (1, vi (k : Int)), (2, vi h)] [] (zI n SH (fun a σ' => zRo b n0 σ0 (zpB b n0 A k h) a σ')) := by
    intro hP
    refine g_aload_n (i := 0) (by decide +kernel) rfl ?_
    refine g_cVV (st := _) (c_Rd_takeToken (n0 := n0) (p := zTb b n0 (A.q)) hn (by rw [hR.1.2]; exact hb) hR.1.1 hn0 (zTb_r hq).2 hR.2.1.2.2.1) k_Rd_takeToken l_Rd_54 (by decide +kernel) (by omega) rfl rfl rfl rfl (Nat.le_of_ble_eq_true rfl) (by decide) ⟨by decide, by decide⟩ ?_
    rintro υ9 hk9
    have hF := hR.next hk9
    have hAF := hA.tok nr.2
    have f4 : υ9 179 4 = zTt b n0 (znx b n0 A.q) := hF.2.1.2.1
    have f5 : υ9 179 5 = (znx b n0 A.q : Int) := hF.2.1.1
    have f6 : υ9 179 6 = (zTb b n0 (znx b n0 A.q) : Int) := hF.2.1.2.2.1
    have f7 : υ9 179 7 = zTs b n0 (znx b n0 A.q) := hF.2.1.2.2.2
    have tr1 := @zTt_r b n0 (znx b n0 A.q)
    have tb1 := zTb_r (b := b) nr.2
    refine g_iload_n (i := 2) (by decide +kernel) rfl ?_
    refine g_iconst (a := 1) (by decide +kernel) ?_
    refine g_icmp_eq (off := 8) (tgt := 35) (by decide +kernel) (by decide) ⟨by omega, by omega⟩ ⟨by omega, by omega⟩ (fun h27 => ?_) (fun h27 => ?_)
    · refine g_aload_n (i := 0) (by decide +kernel) rfl ?_
      refine g_cVI (st := _) (c_Rd_isName hn (by omega) (by omega) (by omega) (fun y => by have y1 := zTs_wr (b := b) (n0 := n0) (q := znx b n0 A.q) (by omega) (by omega); rw [f7]; exact ⟨by omega, by omega⟩)) k_Rd_isName l_Rd_114 (by decide +kernel) (by omega) rfl rfl rfl rfl (Nat.le_of_ble_eq_true rfl) (by decide) ⟨by decide, by decide⟩ ?_
      rintro a9_ σ9 ⟨ea9, hσ9⟩
      obtain rfl := hσ9.symm
      rw [f4, f5, f6, f7] at ea9
      have ea : a9_ = 0 ∨ a9_ = 1 := by rw [ea9]; split <;> omega
      refine g_if_ne (off := 8) (tgt := 47) (by decide +kernel) (by decide) ⟨by omega, by omega⟩ (fun h39 => ?_) (fun h39 => ?_)
      · rw [ea9] at h39
        have hi := zit1 h39
        have hin : zisn b n0 (znx b n0 A.q) := hi
        refine g_aload_n (i := 0) (by decide +kernel) rfl ?_
        refine g_getr f_Rd_15 (by decide +kernel) (by omega) rfl rfl ?_
        refine g_iload_n (i := 1) (by decide +kernel) rfl ?_
        refine g_aload_n (i := 0) (by decide +kernel) rfl ?_
        refine g_getl f_Rd_117 (by decide +kernel) (by omega) rfl rfl ?_
        refine g_last (j := k) (by decide +kernel) (by omega) rfl rfl (by omega) (by decide) ?_
        refine g_aload_n (i := 0) (by decide +kernel) rfl ?_
        rw [f7]
        obtain ⟨ψ, eψ⟩ : ∃ ψ, ψ = zs υ9 181 k (zTs b n0 (znx b n0 A.q)) := ⟨_, rfl⟩
        refine g_eq (σ' := ψ) ?_ eψ.symm rfl rfl
        have hG2 : zRc b n0 σ0 (zAm (znx b n0 A.q) A.D A.nm (zu A.sn k (zTs b n0 (znx b n0 A.q))) A.td A.op A.mk) ψ := by
          rw [eψ]
          refine hF.upd rfl (fun j _ _ _ => by rw [zs_other (by decide)]) (fun a _ _ _ h4 => by rw [zs_other h4]) (by rw [zs_other (by decide)]; exact hF.2.2.1.1) (by rw [zs_other (by decide)]; exact hF.2.2.1.2.1) (fun y => by rw [zs_other (by decide)]; exact hF.2.2.1.2.2.1 y) (by rw [zs_other (by decide)]; exact hF.2.2.2.1.1) ?_ (hF.2.2.2.2.1.oth (fun r hr => by rw [zs_other (by omega)]))
          rw [zs_row, hF.2.2.2.1.2]
        refine g_cVV (st := _) (c_Rd_takeToken (n0 := n0) (p := zTb b n0 (znx b n0 A.q)) hn (by rw [hG2.1.2]; exact hb) hG2.1.1 hn0 (zTb_r nr.2).2 hG2.2.1.2.2.1) k_Rd_takeToken l_Rd_54 (by decide +kernel) (by omega) rfl rfl rfl rfl (Nat.le_of_ble_eq_true rfl) (by decide) ⟨by decide, by decide⟩ ?_
        rintro ψ9 hk9
        have hG3 := hG2.next hk9
        first
          | (have hz : h = 1 ∨ h = 2 := by omega
             have sw := zTs_wr hin.1 hin.2.1
             refine J61 _ _ hG3 ⟨(znx_r nr.2).2, hG, hA.2.2.1, hA.2.2.2.1, fun j hj => ⟨(hA.2.2.2.2.1 j hj).1, ?_⟩, hA.2.2.2.2.2⟩ ?_
             · show 0 ≤ zu A.sn k (zTs b n0 (znx b n0 A.q)) j ∧ zu A.sn k (zTs b n0 (znx b n0 A.q)) j < 1099511627776
               by_cases e : j = k
               · rw [e, zu_eq]; omega
               · rw [zu_ne e]; exact (hA.2.2.2.2.1 j hj).2
             · unfold zpB
               rw [if_neg hP, if_pos hz, if_neg (fun y => y hin)])
          | (have hz : ¬ (h = 1 ∨ h = 2) := by omega
             refine J61 _ _ hF hAF ?_
             unfold zpB
             rw [if_neg hP, if_neg hz])
      · refine g_aload_n (i := 0) (by decide +kernel) rfl ?_
        refine g_cVI (st := _) (c_Rd_cannotStand hn (by omega)) k_Rd_cannotStand l_Rd_81 (by decide +kernel) (by omega) rfl rfl rfl rfl (Nat.le_of_ble_eq_true rfl) (by decide) ⟨by decide, by decide⟩ ?_
        rintro a9_ σ9 ⟨ea9, hσ9⟩
        subst ea9
        subst hσ9
        refine g_retI (by decide +kernel) rfl (Or.inr ⟨rfl, by omega⟩) ⟨by decide, by decide⟩ ?_
        show zRo _ _ _ _ _ _
        have hz : h = 1 ∨ h = 2 := by omega
        rw [ea9] at h39
        have hi := zit0 h39
        have hin : ¬ zisn b n0 (znx b n0 A.q) := hi
        unfold zpB
        rw [if_neg hP, if_pos hz, if_pos hin, f4]
        exact hF.fault hG zcs_r
    · refine g_iload_n (i := 2) (by decide +kernel) rfl ?_
      refine g_iconst (a := 2) (by decide +kernel) ?_
      refine g_icmp_ne (off := 29) (tgt := 61) (by decide +kernel) (by decide) ⟨by omega, by omega⟩ ⟨by omega, by omega⟩ (fun h32 => ?_) (fun h32 => ?_)
      · first
          | (have hz : h = 1 ∨ h = 2 := by omega
             have sw := zTs_wr hin.1 hin.2.1
             refine J61 _ _ hG3 ⟨(znx_r nr.2).2, hG, hA.2.2.1, hA.2.2.2.1, fun j hj => ⟨(hA.2.2.2.2.1 j hj).1, ?_⟩, hA.2.2.2.2.2⟩ ?_
             · show 0 ≤ zu A.sn k (zTs b n0 (znx b n0 A.q)) j ∧ zu A.sn k (zTs b n0 (znx b n0 A.q)) j < 1099511627776
               by_cases e : j = k
               · rw [e, zu_eq]; omega
               · rw [zu_ne e]; exact (hA.2.2.2.2.1 j hj).2
             · unfold zpB
               rw [if_neg hP, if_pos hz, if_neg (fun y => y hin)])
          | (have hz : ¬ (h = 1 ∨ h = 2) := by omega
             refine J61 _ _ hF hAF ?_
             unfold zpB
             rw [if_neg hP, if_neg hz])
      · refine g_aload_n (i := 0) (by decide +kernel) rfl ?_
        refine g_cVI (st := _) (c_Rd_isName hn (by omega) (by omega) (by omega) (fun y => by have y1 := zTs_wr (b := b) (n0 := n0) (q := znx b n0 A.q) (by omega) (by omega); rw [f7]; exact ⟨by omega, by omega⟩)) k_Rd_isName l_Rd_114 (by decide +kernel) (by omega) rfl rfl rfl rfl (Nat.le_of_ble_eq_true rfl) (by decide) ⟨by decide, by decide⟩ ?_
        rintro a9_ σ9 ⟨ea9, hσ9⟩
        obtain rfl := hσ9.symm
        rw [f4, f5, f6, f7] at ea9
        have ea : a9_ = 0 ∨ a9_ = 1 := by rw [ea9]; split <;> omega
        refine g_if_ne (off := 8) (tgt := 47) (by decide +kernel) (by decide) ⟨by omega, by omega⟩ (fun h39 => ?_) (fun h39 => ?_)
        · rw [ea9] at h39
          have hi := zit1 h39
          have hin : zisn b n0 (znx b n0 A.q) := hi
          refine g_aload_n (i := 0) (by decide +kernel) rfl ?_
          refine g_getr f_Rd_15 (by decide +kernel) (by omega) rfl rfl ?_
          refine g_iload_n (i := 1) (by decide +kernel) rfl ?_
          refine g_aload_n (i := 0) (by decide +kernel) rfl ?_
          refine g_getl f_Rd_117 (by decide +kernel) (by omega) rfl rfl ?_
          refine g_last (j := k) (by decide +kernel) (by omega) rfl rfl (by omega) (by decide) ?_
          refine g_aload_n (i := 0) (by decide +kernel) rfl ?_
          rw [f7]
          obtain ⟨ψ, eψ⟩ : ∃ ψ, ψ = zs υ9 181 k (zTs b n0 (znx b n0 A.q)) := ⟨_, rfl⟩
          refine g_eq (σ' := ψ) ?_ eψ.symm rfl rfl
          have hG2 : zRc b n0 σ0 (zAm (znx b n0 A.q) A.D A.nm (zu A.sn k (zTs b n0 (znx b n0 A.q))) A.td A.op A.mk) ψ := by
            rw [eψ]
            refine hF.upd rfl (fun j _ _ _ => by rw [zs_other (by decide)]) (fun a _ _ _ h4 => by rw [zs_other h4]) (by rw [zs_other (by decide)]; exact hF.2.2.1.1) (by rw [zs_other (by decide)]; exact hF.2.2.1.2.1) (fun y => by rw [zs_other (by decide)]; exact hF.2.2.1.2.2.1 y) (by rw [zs_other (by decide)]; exact hF.2.2.2.1.1) ?_ (hF.2.2.2.2.1.oth (fun r hr => by rw [zs_other (by omega)]))
            rw [zs_row, hF.2.2.2.1.2]
          refine g_cVV (st := _) (c_Rd_takeToken (n0 := n0) (p := zTb b n0 (znx b n0 A.q)) hn (by rw [hG2.1.2]; exact hb) hG2.1.1 hn0 (zTb_r nr.2).2 hG2.2.1.2.2.1) k_Rd_takeToken l_Rd_54 (by decide +kernel) (by omega) rfl rfl rfl rfl (Nat.le_of_ble_eq_true rfl) (by decide) ⟨by decide, by decide⟩ ?_
          rintro ψ9 hk9
          have hG3 := hG2.next hk9
          first
            | (have hz : h = 1 ∨ h = 2 := by omega
               have sw := zTs_wr hin.1 hin.2.1
               refine J61 _ _ hG3 ⟨(znx_r nr.2).2, hG, hA.2.2.1, hA.2.2.2.1, fun j hj => ⟨(hA.2.2.2.2.1 j hj).1, ?_⟩, hA.2.2.2.2.2⟩ ?_
               · show 0 ≤ zu A.sn k (zTs b n0 (znx b n0 A.q)) j ∧ zu A.sn k (zTs b n0 (znx b n0 A.q)) j < 1099511627776
                 by_cases e : j = k
                 · rw [e, zu_eq]; omega
                 · rw [zu_ne e]; exact (hA.2.2.2.2.1 j hj).2
               · unfold zpB
                 rw [if_neg hP, if_pos hz, if_neg (fun y => y hin)])
            | (have hz : ¬ (h = 1 ∨ h = 2) := by omega
               refine J61 _ _ hF hAF ?_
               unfold zpB
               rw [if_neg hP, if_neg hz])
        · refine g_aload_n (i := 0) (by decide +kernel) rfl ?_
          refine g_cVI (st := _) (c_Rd_cannotStand hn (by omega)) k_Rd_cannotStand l_Rd_81 (by decide +kernel) (by omega) rfl rfl rfl rfl (Nat.le_of_ble_eq_true rfl) (by decide) ⟨by decide, by decide⟩ ?_
          rintro a9_ σ9 ⟨ea9, hσ9⟩
          subst ea9
          subst hσ9
          refine g_retI (by decide +kernel) rfl (Or.inr ⟨rfl, by omega⟩) ⟨by decide, by decide⟩ ?_
          show zRo _ _ _ _ _ _
          have hz : h = 1 ∨ h = 2 := by omega
          rw [ea9] at h39
          have hi := zit0 h39
          have hin : ¬ zisn b n0 (znx b n0 A.q) := hi
          unfold zpB
          rw [if_neg hP, if_pos hz, if_pos hin, f4]
          exact hF.fault hG zcs_r
  refine g_iload_n (i := 2) (by decide +kernel) rfl ?_
  refine g_if_eq (off := 20) (tgt := 21) (by decide +kernel) (by decide) ⟨by omega, by omega⟩ (fun h1 => ?_) (fun h1 => ?_)
  · refine J21 ?_
    first
      | (intro y; exact y.1 (by omega))
      | (intro y
         rw [ea9] at h12
         exact y.2 (zit1 h12))
  · refine g_aload_n (i := 0) (by decide +kernel) rfl ?_
    refine g_getr f_Rd_22 (by decide +kernel) (by omega) rfl rfl ?_
    refine g_iload_n (i := 1) (by decide +kernel) rfl ?_
    refine g_cVI (st := _) (c_Sh_isInPar (b := 11) (k := k) hn sh_11 gd k12) k_Sh_isInPar l_Rd_153 (by decide +kernel) (by omega) rfl rfl rfl rfl (Nat.le_of_ble_eq_true rfl) (by decide) ⟨by decide, by decide⟩ ?_
    rintro a9_ σ9 ⟨ea9, hσ9⟩
    obtain rfl := hσ9.symm
    have ea9 : a9_ = (if σ 13 k ≠ -1 ∧ σ 12 (σ 13 k).toNat = 1 then 1 else 0) := ea9
    rw [e1, e2] at ea9
    have ea : a9_ = 0 ∨ a9_ = 1 := by rw [ea9]; split <;> omega
    refine g_if_ne (off := 9) (tgt := 21) (by decide +kernel) (by decide) ⟨by omega, by omega⟩ (fun h12 => ?_) (fun h12 => ?_)
    · refine J21 ?_
      first
        | (intro y; exact y.1 (by omega))
        | (intro y
           rw [ea9] at h12
           exact y.2 (zit1 h12))
    · refine g_aload_n (i := 0) (by decide +kernel) rfl ?_
      refine g_iconst (a := 5) (by decide +kernel) ?_
      refine g_cVI (st := _) (c_Rd_failWith hn) k_Rd_failWith l_Rd_93 (by decide +kernel) (by omega) rfl rfl rfl rfl (Nat.le_of_ble_eq_true rfl) (by decide) ⟨by decide, by decide⟩ ?_
      rintro a9_ σ9 ⟨ea9, hσ9⟩
      subst ea9
      subst hσ9
      refine g_retI (by decide +kernel) rfl (Or.inr ⟨rfl, by omega⟩) ⟨by decide, by decide⟩ ?_
      show zRo _ _ _ _ _ _
      have h99 := h12
      rw [ea9] at h99
      have hz := zit0 h99
      unfold zpB
      rw [if_pos ⟨by omega, hz⟩]
      exact hR.fault hG (by decide)
