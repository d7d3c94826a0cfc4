/-! LOAD of the reference -/
def zA0 (b : Nat → Int) (n0 : Nat) (A : zAb) : Prop := A.q = zrn (zqs b) n0 0 ∧ (A.D 0 0 = 0 ∧ A.D 0 8 = 0) ∧ zGood A.D 0 ∧ A.op = -1 ∧ A.mk = -1 ∧ A.td < 8192
theorem zA0.ai {b : Nat → Int} {n0 : Nat} {A : zAb} (h : zA0 b n0 A) : zAi n0 A := by
  obtain ⟨h1, ⟨h2, h3⟩, h4, h5, h6, h7⟩ := h
  have z := zrn_r (P := zqs b) (n := n0) (p := 0) (by omega)
  exact ⟨by omega, h4, ⟨by omega, by omega⟩, ⟨by omega, by omega⟩, fun i hi => absurd hi (by rw [h2]; exact Nat.not_lt_zero _), h7⟩
theorem zA0.av {b : Nat → Int} {n0 : Nat} {A : zAb} (h : zA0 b n0 A) : zAv A := by
  obtain ⟨h1, ⟨h2, h3⟩, h4, h5, h6, h7⟩ := h
  obtain ⟨q, D, nm, sn, td, op, mk⟩ := A
  have h5 : op = -1 := h5
  have h6 : mk = -1 := h6
  rw [h5, h6]
  exact zAv_0 h2 h3 h4
theorem zA00.a0 {b : Nat → Int} {n0 : Nat} {σ : zSt} (hG : zGood σ 11) : zA0 b n0 (zA00 b n0 σ) := by
  refine ⟨rfl, ⟨by show zs (zs (fun r => σ (11 + r)) 0 0 0) 0 8 0 0 0 = 0; rw [zs_ne (by decide), zs_eq], by show zs (zs (fun r => σ (11 + r)) 0 0 0) 0 8 0 0 8 = 0; rw [zs_eq]⟩, ?_, rfl, rfl, by show 0 < 8192; decide⟩
  show zGood (zs (zs (fun r => σ (11 + r)) 0 0 0) 0 8 0) 0
  obtain ⟨g1, g2, g3, g4⟩ := hG
  have o : ∀ r, r ≠ 0 → zs (zs (fun r => σ (11 + r)) 0 0 0) 0 8 0 r = σ (11 + r) := fun r hr => by rw [zs_other hr, zs_other hr]
  unfold zGood
  rw [o (0 + 1) (by decide), o (0 + 2) (by decide), o (0 + 3) (by decide), o (0 + 4) (by decide), o (0 + 5) (by decide), o (0 + 6) (by decide), o (0 + 7) (by decide), o (0 + 8) (by decide), o (0 + 9) (by decide)]
  refine ⟨?_, g2, g3, g4⟩
  rw [zs_ne (show ¬ ((0 : Nat) = 0 ∧ (0 : Nat) = 8) by decide), zs_eq, zs_eq]
  decide
/-- what isShow answers -/
def zIsS (b : Nat → Int) (n0 : Nat) (σ0 : zSt) (A : zAb) (a : Int) (σ' : zSt) : Prop := (∃ f, (zBeg b n0 A (.inl f) ∨ ∃ B, zBeg b n0 A (.inr B) ∧ zTt b n0 B.q ≠ 0 ∧ f = (zcs b n0 B.q, B.q)) ∧ a = 0 ∧ zRft σ0 f σ') ∨ ∃ B, zBeg b n0 A (.inr B) ∧ zTt b n0 B.q = 0 ∧ zSt0 B ∧ (zAi n0 B ∧ zAv B) ∧ a = 1 ∧ zRr b n0 σ0 B σ'
theorem zPf.beg {b : Nat → Int} {n0 : Nat} {A : zAb} {f : Int × Nat} (h : zPf b n0 A f) : zBeg b n0 A (.inl f) := by
  rcases h with h | ⟨B, ⟨C, k, h1, h2⟩, h3, h4⟩
  · exact Or.inl ⟨f, h, rfl⟩
  · exact Or.inr ⟨C, h1, k, B, h2, Or.inl ⟨h3, f, h4, rfl⟩⟩
theorem zPt.beg {b : Nat → Int} {n0 : Nat} {A B : zAb} (h : zPt b n0 A B) (hs : zSt0 B) : zBeg b n0 A (.inr B) := by
  obtain ⟨C, k, h1, h2⟩ := h
  exact Or.inr ⟨C, h1, k, B, h2, Or.inr ⟨hs, rfl⟩⟩
theorem c_Md_isShow {G : zG} {n : Nat} {σ : zSt} {b : Nat → Int} {n0 : Nat} {A : zAb} (hn : 220 ≤ n) (hB : zBm b (σ 196)) (hw : ∀ k, k < 16 → σ 197 k = zke.getD k 0) (hn0 : n0 ≤ 600) (hA0 : zA0 b n0 A)  : Gm G y_Md_isShow m_Md_isShow 12 0 0 [vr G 189, vi (n0 : Int)] n SH σ (zI n SH (fun a σ' => zIsS b n0 (zs (zs (zs (zs (zs σ 189 20 (n0 : Int)) 189 17 0) 189 14 0) 190 1746 0) 190 1747 0) A a σ')) := by
  refine g_enter (L := [(0, _), (1, _)]) (by decide) rfl rfl rfl (Nat.le_of_ble_eq_true rfl) (fun X => ?_)
  refine g_aload_n (i := 0) (by decide +kernel) rfl ?_
  refine g_iload_n (i := 1) (by decide +kernel) rfl ?_
  refine g_puti f_Md_204 (by decide +kernel) (by omega) rfl rfl ?_
  refine g_aload_n (i := 0) (by decide +kernel) rfl ?_
  refine g_iconst (a := 0) (by decide +kernel) ?_
  refine g_puti f_Md_207 (by decide +kernel) (by omega) rfl rfl ?_
  refine g_aload_n (i := 0) (by decide +kernel) rfl ?_
  refine g_iconst (a := 0) (by decide +kernel) ?_
  refine g_puti f_Md_230 (by decide +kernel) (by omega) rfl rfl ?_
  refine g_aload_n (i := 0) (by decide +kernel) rfl ?_
  refine g_getr f_Md_7 (by decide +kernel) (by omega) rfl rfl ?_
  refine g_sipush (a := 1746) (by decide +kernel) (by decide) ?_
  refine g_iconst (a := 0) (by decide +kernel) ?_
  refine g_iast (j := 1746) (by decide +kernel) (by omega) rfl rfl (by omega) (by decide) ?_
  refine g_aload_n (i := 0) (by decide +kernel) rfl ?_
  refine g_getr f_Md_7 (by decide +kernel) (by omega) rfl rfl ?_
  refine g_sipush (a := 1747) (by decide +kernel) (by decide) ?_
  refine g_iconst (a := 0) (by decide +kernel) ?_
  refine g_iast (j := 1747) (by decide +kernel) (by omega) rfl rfl (by omega) (by decide) ?_
  obtain ⟨τ, eτ⟩ : ∃ τ, τ = (zs (zs (zs (zs (zs σ 189 20 (n0 : Int)) 189 17 0) 189 14 0) 190 1746 0) 190 1747 0) := ⟨_, rfl⟩
  refine g_eq (σ' := τ) ?_ eτ.symm rfl rfl
  rw [← eτ]
  have f1 : ∀ a, a ≠ 189 → a ≠ 190 → τ a = σ a := fun a h1 h2 => by rw [eτ, zs_other h2, zs_other h2, zs_other h1, zs_other h1, zs_other h1]
  have e14 : τ 189 14 = 0 := by rw [eτ, zs_other (by decide), zs_other (by decide), zs_eq]
  have e17 : τ 189 17 = ((0 : Nat) : Int) := by rw [eτ, zs_other (by decide), zs_other (by decide), zs_ne (by decide), zs_eq]; rfl
  have e20 : τ 189 20 = (n0 : Int) := by rw [eτ, zs_other (by decide), zs_other (by decide), zs_ne (by decide), zs_ne (by decide), zs_eq]
  have c0 : τ 190 1746 = 0 := by rw [eτ, zs_ne (by decide), zs_eq]
  have c1 : τ 190 1747 = 0 := by rw [eτ, zs_eq]
  have h0 : zR0 b n0 τ := ⟨by rw [f1 196 (by decide) (by decide)]; exact hB, e20, by rw [f1 197 (by decide) (by decide)]; exact hw⟩
  have iA := hA0.ai
  have vA := hA0.av
  refine g_aload_n (i := 0) (by decide +kernel) rfl ?_
  refine g_cVV (st := _) (c_Md_reads (n0 := n0) (p := 0) hn h0.1 e20 hn0 (Nat.zero_le _) e17) k_Md_reads l_Md_247 (by decide +kernel) (by omega) rfl rfl rfl rfl (Nat.le_of_ble_eq_true rfl) (by decide) ⟨by decide, by decide⟩ ?_
  rintro υ hk9
  have eA0 := hA0.2.1.1
  have eA8 := hA0.2.1.2
  have hQ : zRq0 b n0 τ A.q υ := ⟨by rw [hk9.1.2 14 (by decide) (by decide) (by decide) (by decide) (by decide)]; exact e14, by rw [hA0.1]; exact hk9.tw, by rw [hk9.1.1 190 (by decide), c0]; decide, (zFrM.rf τ).tk hk9.1⟩
  have nA : zN A.D = 0 := by unfold zN; rw [eA0]; rfl
  have hR : zRr b n0 τ A υ := by
    refine ⟨hQ, ⟨fun i hi => absurd hi (by omega), fun i hi => absurd hi (by omega)⟩, fun y => absurd hA0.2.2.2.2.1 y, ⟨?_, ?_⟩, fun k hk => absurd hk (by omega), fun k hk => absurd hk (by omega), fun i hi => absurd hi (by rw [eA8]; exact Nat.not_lt_zero _)⟩
    · show υ 190 1746 = _; rw [hk9.1.1 190 (by decide), c0, eA0]
    · show υ 190 (1746 + 1) = _; rw [hk9.1.1 190 (by decide), eA8]; exact c1
  have eop := hA0.2.2.2.1
  have dz : zdep (A.D 2) 12 A.op = 0 := by rw [eop]; rfl
  have g9 := c_Md_readsClip (G := G) (n := n) hn h0 hn0 5 A υ 0 hR iA vA hA0.2.2.2.2.1 (Or.inl nA) (by omega) (by rw [if_pos eop])
  rw [eop] at g9
  refine g_aload_n (i := 0) (by decide +kernel) rfl ?_
  refine g_iconst (a := -1) (by decide +kernel) ?_
  refine g_iconst (a := 0) (by decide +kernel) ?_
  refine g_cVV (st := _) (g9) k_Md_readsClip l_Md_278 (by decide +kernel) (by omega) rfl rfl rfl rfl (Nat.le_of_ble_eq_true rfl) (by decide) ⟨by decide, by decide⟩ ?_
  rintro ψ hC
  have h18 : ψ 189 14 = 0 → 0 ≤ ψ 189 18 ∧ ψ 189 18 ≤ 4 := fun y => by
    rcases hC with ⟨f, _, e⟩ | ⟨B, K, _, _, _, e⟩
    · exact absurd e.2.1 (by have := e.1; omega)
    · have z := e.1.2.1.2.1
      have z2 := zsrt_r (zTt b n0 B.q)
      omega
  have h14 : 0 ≤ ψ 189 14 ∧ ψ 189 14 ≤ 8 := by
    rcases hC with ⟨f, _, e⟩ | ⟨B, K, _, _, _, e⟩
    · have e1 := e.1; have e2 := e.2.1; omega
    · have e1 := e.1.1; omega
  obtain ⟨y8, hy8, ey8, hyx⟩ := vi_nm (ψ 189 18)
  refine g_aload_n (i := 0) (by decide +kernel) rfl ?_
  refine g_aload_n (i := 0) (by decide +kernel) rfl ?_
  refine g_geti f_Md_213 (by decide +kernel) (by omega) rfl rfl ?_
  rw [ey8]
  refine g_if_ne (off := 7) (tgt := 55) (by decide +kernel) (by decide) hy8 (fun h48 => ?_) (fun h48 => ?_)
  · refine g_iconst (a := 0) (by decide +kernel) ?_
    refine g_iconst (a := 2) (by decide +kernel) ?_
    refine g_cVV (st := _) (c_Md_wants hn ⟨by omega, by omega⟩ (fun y => by have := h18 (by omega); exact ⟨by omega, by omega⟩) ⟨by decide, by decide⟩ (by decide)) k_Md_wants l_Md_243 (by decide +kernel) (by omega) rfl rfl rfl rfl (Nat.le_of_ble_eq_true rfl) (by decide) ⟨by decide, by decide⟩ ?_
    rintro ω hω
    have hres : zIsS b n0 τ A (if ω 189 14 = 0 then 1 else 0) ω ∧ 0 ≤ ω 189 14 ∧ ω 189 14 ≤ 8 := by
      rcases hC with ⟨f, e1, e⟩ | ⟨B, K, e1, e2, e3, e⟩
      · have ew := e.wt hω
        rw [ew]
        have f1 := e.1
        have f2 := e.2.1
        exact ⟨Or.inl ⟨f, Or.inl e1.beg, if_neg (by omega), e⟩, by omega⟩
      · have st : zSt0 B := ⟨e2.1, e2.2.trans eop⟩
        have iv := e1.inv iA vA (Or.inl nA)
        have z14 := e.1.1
        have z18 := e.1.2.1.2.1
        have tr := zTt_r (b := b) (n0 := n0) (q := B.q)
        have s0 := zsrt_0 tr
        have sr := zsrt_r (zTt b n0 B.q)
        have y0 := hyx ⟨by omega, by omega⟩
        by_cases c : zTt b n0 B.q = 0
        · have ew : ω = ψ := by
            rw [hω]
            first
              | rw [if_neg (by decide)]
              | (exfalso; have := s0.mpr c; omega)
          rw [ew, if_pos z14]
          exact ⟨Or.inr ⟨B, e1.beg st, c, st, iv, rfl, e⟩, by omega⟩
        · have ew : ω = zfl ψ 2 := by
            rw [hω]
            first
              | rw [if_pos rfl]
              | (exfalso; exact c (s0.mp (by omega)))
          have g := e.1.fl (k := 2) (by decide)
          rw [if_pos rfl, ← ew] at g
          have f1 := g.1
          have f2 := g.2.1
          refine ⟨Or.inl ⟨_, Or.inr ⟨B, e1.beg st, c, rfl⟩, if_neg (by omega), g⟩, by omega⟩
    refine g_aload_n (i := 0) (by decide +kernel) rfl ?_
    refine g_geti f_Md_230 (by decide +kernel) (by omega) rfl rfl ?_
    refine g_if_ne (off := 7) (tgt := 71) (by decide +kernel) (by decide) ⟨by omega, by omega⟩ (fun h64 => ?_) (fun h64 => ?_)
    · refine g_iconst (a := 0) (by decide +kernel) ?_
      refine g_retI (by decide +kernel) rfl (Or.inr ⟨rfl, by omega⟩) ⟨by decide, by decide⟩ ?_
      first
        | (have z := hres.1
           rw [if_pos (by omega)] at z
           exact z)
        | (have z := hres.1
           rw [if_neg (by omega)] at z
           exact z)
    · refine g_iconst (a := 1) (by decide +kernel) ?_
      refine g_goto (off := 4) (tgt := 72) (by decide +kernel) (by decide) ?_
      refine g_retI (by decide +kernel) rfl (Or.inr ⟨rfl, by omega⟩) ⟨by decide, by decide⟩ ?_
      first
        | (have z := hres.1
           rw [if_pos (by omega)] at z
           exact z)
        | (have z := hres.1
           rw [if_neg (by omega)] at z
           exact z)
  · refine g_iconst (a := 1) (by decide +kernel) ?_
    refine g_goto (off := 4) (tgt := 56) (by decide +kernel) (by decide) ?_
    refine g_iconst (a := 2) (by decide +kernel) ?_
    refine g_cVV (st := _) (c_Md_wants hn ⟨by omega, by omega⟩ (fun y => by have := h18 (by omega); exact ⟨by omega, by omega⟩) ⟨by decide, by decide⟩ (by decide)) k_Md_wants l_Md_243 (by decide +kernel) (by omega) rfl rfl rfl rfl (Nat.le_of_ble_eq_true rfl) (by decide) ⟨by decide, by decide⟩ ?_
    rintro ω hω
    have hres : zIsS b n0 τ A (if ω 189 14 = 0 then 1 else 0) ω ∧ 0 ≤ ω 189 14 ∧ ω 189 14 ≤ 8 := by
      rcases hC with ⟨f, e1, e⟩ | ⟨B, K, e1, e2, e3, e⟩
      · have ew := e.wt hω
        rw [ew]
        have f1 := e.1
        have f2 := e.2.1
        exact ⟨Or.inl ⟨f, Or.inl e1.beg, if_neg (by omega), e⟩, by omega⟩
      · have st : zSt0 B := ⟨e2.1, e2.2.trans eop⟩
        have iv := e1.inv iA vA (Or.inl nA)
        have z14 := e.1.1
        have z18 := e.1.2.1.2.1
        have tr := zTt_r (b := b) (n0 := n0) (q := B.q)
        have s0 := zsrt_0 tr
        have sr := zsrt_r (zTt b n0 B.q)
        have y0 := hyx ⟨by omega, by omega⟩
        by_cases c : zTt b n0 B.q = 0
        · have ew : ω = ψ := by
            rw [hω]
            first
              | rw [if_neg (by decide)]
              | (exfalso; have := s0.mpr c; omega)
          rw [ew, if_pos z14]
          exact ⟨Or.inr ⟨B, e1.beg st, c, st, iv, rfl, e⟩, by omega⟩
        · have ew : ω = zfl ψ 2 := by
            rw [hω]
            first
              | rw [if_pos rfl]
              | (exfalso; exact c (s0.mp (by omega)))
          have g := e.1.fl (k := 2) (by decide)
          rw [if_pos rfl, ← ew] at g
          have f1 := g.1
          have f2 := g.2.1
          refine ⟨Or.inl ⟨_, Or.inr ⟨B, e1.beg st, c, rfl⟩, if_neg (by omega), g⟩, by omega⟩
    refine g_aload_n (i := 0) (by decide +kernel) rfl ?_
    refine g_geti f_Md_230 (by decide +kernel) (by omega) rfl rfl ?_
    refine g_if_ne (off := 7) (tgt := 71) (by decide +kernel) (by decide) ⟨by omega, by omega⟩ (fun h64 => ?_) (fun h64 => ?_)
    · refine g_iconst (a := 0) (by decide +kernel) ?_
      refine g_retI (by decide +kernel) rfl (Or.inr ⟨rfl, by omega⟩) ⟨by decide, by decide⟩ ?_
      first
        | (have z := hres.1
           rw [if_pos (by omega)] at z
           exact z)
        | (have z := hres.1
           rw [if_neg (by omega)] at z
           exact z)
    · refine g_iconst (a := 1) (by decide +kernel) ?_
      refine g_goto (off := 4) (tgt := 72) (by decide +kernel) (by decide) ?_
      refine g_retI (by decide +kernel) rfl (Or.inr ⟨rfl, by omega⟩) ⟨by decide, by decide⟩ ?_
      first
        | (have z := hres.1
           rw [if_pos (by omega)] at z
           exact z)
        | (have z := hres.1
           rw [if_neg (by omega)] at z
           exact z)
def zsw (c : Nat → Int) (i : Nat) : Nat → Int := fun j => if j < i then c (1746 + j) else if 1746 ≤ j ∧ j < 1746 + i then c (j - 1746) else c j
theorem zsw_0 (c : Nat → Int) : zsw c 0 = c := by funext j; unfold zsw; rw [if_neg (by omega), if_neg (by omega)]
theorem zsw_s (c : Nat → Int) {i : Nat} (hi : i < 194) : zu (zu (zsw c i) i (zsw c i (1746 + i))) (1746 + i) (zsw c i i) = zsw c (i + 1) := by
  funext j
  by_cases e1 : j = 1746 + i
  · rw [e1, zu_eq]
    unfold zsw
    rw [if_neg (by omega), if_neg (by omega), if_neg (by omega), if_pos (by omega), show 1746 + i - 1746 = i by omega]
  · rw [zu_ne e1]
    by_cases e2 : j = i
    · rw [e2, zu_eq]
      unfold zsw
      rw [if_neg (by omega), if_neg (by omega), if_pos (by omega)]
    · rw [zu_ne e2]
      unfold zsw
      by_cases c1 : j < i
      · rw [if_pos c1, if_pos (by omega)]
      · rw [if_neg c1, if_neg (show ¬ j < i + 1 by omega)]
        by_cases c2 : 1746 ≤ j ∧ j < 1746 + i
        · rw [if_pos c2, if_pos (by omega)]
        · rw [if_neg c2, if_neg (by omega)]
theorem zsw_a {c : Nat → Int} {j : Nat} (h : j < 194) : zsw c 194 j = c (1746 + j) := by unfold zsw; rw [if_pos h]
theorem zsw_b {c : Nat → Int} {j : Nat} (h : j < 194) : zsw c 194 (1746 + j) = c j := by unfold zsw; rw [if_neg (by omega), if_pos (by omega), show 1746 + j - 1746 = j by omega]
theorem zsw_c {c : Nat → Int} {j : Nat} (h : 194 ≤ j ∧ j < 1746) : zsw c 194 j = c j := by unfold zsw; rw [if_neg (by omega), if_neg (by omega)]
theorem w_Md_swaps {G : zG} {X : zX} {n : Nat} {σ : zSt} (hn : 220 ≤ n)  : ∀ (m : Nat) (i : Nat) (x1 : Int), x1 = (i : Int) → i ≤ 194 → 194 < i + m → Go G X m_Md_swaps (0, 0, 0, 0, 0) n SH (zrow σ 190 (zsw (σ 190) i)) 2 [(0, vr G 189), (1, vi x1)] [] (zV n SH (fun σ' => σ' = zrow σ 190 (zsw (σ 190) 194))) := by
  intro m
  induction m with
  | zero => intro i x1 e1 hi hm; exact absurd hm (by omega)
  | succ m ih =>
    intro i x1 e1 hi hm
    subst e1
    refine g_iload_n (i := 1) (by decide +kernel) rfl ?_
    refine g_sipush (a := 194) (by decide +kernel) (by decide) ?_
    refine g_icmp_ge (off := 43) (tgt := 49) (by decide +kernel) (by decide) ⟨by omega, by omega⟩ ⟨by omega, by omega⟩ (fun h6 => ?_) (fun h6 => ?_)
    · refine g_retV (by decide +kernel) rfl ⟨by decide, by decide⟩ ?_
      rw [show i = 194 by omega]
    · refine g_aload_n (i := 0) (by decide +kernel) rfl ?_
      refine g_getr f_Md_7 (by decide +kernel) (by omega) rfl rfl ?_
      refine g_iload_n (i := 1) (by decide +kernel) rfl ?_
      refine g_iald (j := i) (by decide +kernel) (by omega) rfl rfl (by omega) (by decide) ?_
      refine g_istore_n (i := 2) (L' := [(0, _), (1, _), (2, _)]) (by decide +kernel) rfl rfl ?_
      refine g_aload_n (i := 0) (by decide +kernel) rfl ?_
      refine g_getr f_Md_7 (by decide +kernel) (by omega) rfl rfl ?_
      refine g_iload_n (i := 1) (by decide +kernel) rfl ?_
      refine g_aload_n (i := 0) (by decide +kernel) rfl ?_
      refine g_getr f_Md_7 (by decide +kernel) (by omega) rfl rfl ?_
      refine g_sipush (a := 1746) (by decide +kernel) (by decide) ?_
      refine g_iload_n (i := 1) (by decide +kernel) rfl ?_
      refine g_iadd (by decide +kernel) ?_
      refine g_iald (j := 1746 + i) (by decide +kernel) (by omega) rfl (by omega) (by omega) (by decide) ?_
      refine g_iast (j := i) (by decide +kernel) (by omega) rfl rfl (by omega) (by decide) ?_
      refine g_aload_n (i := 0) (by decide +kernel) rfl ?_
      refine g_getr f_Md_7 (by decide +kernel) (by omega) rfl rfl ?_
      refine g_sipush (a := 1746) (by decide +kernel) (by decide) ?_
      refine g_iload_n (i := 1) (by decide +kernel) rfl ?_
      refine g_iadd (by decide +kernel) ?_
      refine g_iload_n (i := 2) (by decide +kernel) rfl ?_
      refine g_iast (j := 1746 + i) (by decide +kernel) (by omega) rfl (by omega) (by omega) (by decide) ?_
      refine g_iinc (i := 1) (b := 1) (L' := [(0, _), (1, _), (2, _)]) (by decide +kernel) rfl rfl rfl ?_
      refine g_goto (off := -44) (tgt := 2) (by decide +kernel) (by decide) ?_
      refine g_less [0, 1] rfl ?_
      refine g_eq (ih (i + 1) _ rfl (by omega) (by omega)) ?_ (by push_cast; rfl) rfl
      rw [zs_zrow, zs_zrow, zrow_eq, zsw_s _ (by omega)]
theorem c_Md_swaps {G : zG} {n : Nat} {σ : zSt} (hn : 220 ≤ n)  : Gm G y_Md_swaps m_Md_swaps 0 0 0 [vr G 189] n SH σ (zV n SH (fun σ' => σ' = zrow σ 190 (zsw (σ 190) 194))) := by
  refine g_enter (L := [(0, _)]) (by decide) rfl rfl rfl (Nat.le_of_ble_eq_true rfl) (fun X => ?_)
  refine g_iconst (a := 0) (by decide +kernel) ?_
  refine g_istore_n (i := 1) (L' := [(0, _), (1, _)]) (by decide +kernel) rfl rfl ?_
  refine g_eq (w_Md_swaps hn 195 0 0 rfl (by omega) (by omega)) ?_ rfl rfl
  rw [zsw_0, zrow_id]
