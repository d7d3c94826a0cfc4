/-! TOKENS of the reference -/
/-- the tape of the reference says the bytes b -/
def zBm (b r : Nat → Int) : Prop := ∀ j, j < 600 → -128 ≤ r j ∧ r j ≤ 127 ∧ b j = r j % 256
def zTqM (σ τ : zSt) : Prop := (∀ a, a ≠ 189 → τ a = σ a) ∧ ∀ j, j ≠ 16 → j ≠ 17 → j ≠ 18 → j ≠ 19 → j ≠ 21 → τ 189 j = σ 189 j
theorem zTqM.rf (σ : zSt) : zTqM σ σ := ⟨fun _ _ => rfl, fun _ _ _ _ _ _ => rfl⟩
theorem zTqM.put {σ τ : zSt} {j : Nat} {v : Int} (h : zTqM σ τ) (hj : j = 16 ∨ j = 17 ∨ j = 18 ∨ j = 19 ∨ j = 21) : zTqM σ (zs τ 189 j v) := ⟨fun a ha => by rw [zs_other ha]; exact h.1 a ha, fun i h1 h2 h3 h4 h5 => by rw [zs_ne (by omega)]; exact h.2 i h1 h2 h3 h4 h5⟩
theorem zTqM.tr {σ τ υ : zSt} (h : zTqM σ τ) (g : zTqM τ υ) : zTqM σ υ := ⟨fun a ha => by rw [g.1 a ha]; exact h.1 a ha, fun j h1 h2 h3 h4 h5 => by rw [g.2 j h1 h2 h3 h4 h5]; exact h.2 j h1 h2 h3 h4 h5⟩
/-- the reference's number of a type of token -/
def zsrt (t : Int) : Int := if t = 0 then 0 else if t = 2 then 1 else if t = 3 then 2 else if t = 4 then 3 else 4
theorem zfo_r10 {b : Nat → Int} {f : Nat} : ∀ i : Nat, (∀ j, f ≤ j → j < f + i → zqd b j = true) → 0 ≤ zfo 10 48 b f i ∧ zfo 10 48 b f i < 10 ^ i := by
  intro i
  induction i with
  | zero => intro _; exact ⟨Int.le_refl _, by show (0 : Int) < 10 ^ 0; decide⟩
  | succ i ih =>
    intro h
    have q := zqd_iff.mp (h (f + i) (by omega) (by omega))
    have g := ih (fun j a c => h j a (by omega))
    rw [Int.pow_succ]
    show 0 ≤ zfo 10 48 b f i * 10 + (b (f + i) - 48) ∧ zfo 10 48 b f i * 10 + (b (f + i) - 48) < _
    omega
def zTkM (σ σ' : zSt) (b : Nat → Int) (n0 p : Nat) : Prop := zTqM σ σ' ∧ σ' 189 16 = (zrn (zqs b) n0 p : Int) ∧ σ' 189 18 = zsrt (zTt b n0 (zrn (zqs b) n0 p)) ∧ σ' 189 17 = (if n0 ≤ zrn (zqs b) n0 p then (zrn (zqs b) n0 p : Int) + 1 else (zTb b n0 (zrn (zqs b) n0 p) : Int)) ∧ σ' 189 21 = (if zrn (zqs b) n0 p < n0 ∧ zql b (zrn (zqs b) n0 p) = true then zfo 27 96 b (zrn (zqs b) n0 p) (min (zrn (zql b) n0 (zrn (zqs b) n0 p) - zrn (zqs b) n0 p) 9) else σ 189 21) ∧ σ' 189 19 = (if zrn (zqs b) n0 p < n0 ∧ zqd b (zrn (zqs b) n0 p) = true then zfo 10 48 b (zrn (zqs b) n0 p) (min (zrn (zqd b) n0 (zrn (zqs b) n0 p) - zrn (zqs b) n0 p) 4) else σ 189 19)
theorem c_Md_isOf {G : zG} {n : Nat} {σ : zSt} {j n0 : Nat} {lo hi : Int} (hn : 220 ≤ n) (hB : ∀ j, j < 600 → -128 ≤ σ 196 j ∧ σ 196 j ≤ 127) (hl : σ 189 20 = (n0 : Int)) (hn0 : n0 ≤ 600) (hj : j ≤ 600) (z1 : zr lo) (z2 : zr hi)  : Gm G y_Md_isOf m_Md_isOf 1 0 0 [vr G 189, vi (j : Int), vi lo, vi hi] n SH σ (zI n SH (fun a σ' => a = (if j < n0 ∧ lo ≤ σ 196 j ∧ σ 196 j ≤ hi then 1 else 0) ∧ σ' = σ)) := by
  refine g_enter (L := [(0, _), (1, _), (2, _), (3, _)]) (by decide) rfl rfl rfl (Nat.le_of_ble_eq_true rfl) (fun X => ?_)
  refine g_iload_n (i := 1) (by decide +kernel) rfl ?_
  refine g_aload_n (i := 0) (by decide +kernel) rfl ?_
  refine g_geti f_Md_204 (by decide +kernel) (by omega) rfl rfl ?_
  refine g_icmp_ge (off := 21) (tgt := 26) (by decide +kernel) (by decide) ⟨by omega, by omega⟩ ⟨by omega, by omega⟩ (fun h5 => ?_) (fun h5 => ?_)
  · refine g_iconst (a := 0) (by decide +kernel) ?_
    refine g_retI (by decide +kernel) rfl (Or.inr ⟨rfl, by omega⟩) ⟨by decide, by decide⟩ ?_
    exact ⟨by first | rw [if_pos (by omega)] | rw [if_neg (by omega)], rfl⟩
  · have bj := hB j (by omega)
    refine g_aload_n (i := 0) (by decide +kernel) rfl ?_
    refine g_getr f_Md_30 (by decide +kernel) (by omega) rfl rfl ?_
    refine g_iload_n (i := 1) (by decide +kernel) rfl ?_
    refine g_bald (j := j) (by decide +kernel) (by omega) rfl rfl (by omega) (by decide) ?_
    refine g_iload_n (i := 2) (by decide +kernel) rfl ?_
    refine g_iload_n (i := 3) (by decide +kernel) rfl ?_
    refine g_cSI (st := _) (c_Md_isIn ⟨by omega, by omega⟩ z1 z2) k_Md_isIn l_Md_152 (by decide +kernel) rfl rfl (Nat.le_of_ble_eq_true rfl) (by decide) ⟨by decide, by decide⟩ ?_
    rintro a9 σ9 ⟨ea9, hσ9⟩
    obtain rfl := hσ9.symm
    subst ea9
    refine g_if_eq (off := 7) (tgt := 26) (by decide +kernel) (by decide) zbr (fun h19 => ?_) (fun h19 => ?_)
    · have h19 := zb0.mp h19
      refine g_iconst (a := 0) (by decide +kernel) ?_
      refine g_retI (by decide +kernel) rfl (Or.inr ⟨rfl, by omega⟩) ⟨by decide, by decide⟩ ?_
      exact ⟨by first | rw [if_pos (by omega)] | rw [if_neg (by omega)], rfl⟩
    · have h19 := zb1.mp h19
      refine g_iconst (a := 1) (by decide +kernel) ?_
      refine g_goto (off := 4) (tgt := 27) (by decide +kernel) (by decide) ?_
      refine g_retI (by decide +kernel) rfl (Or.inr ⟨rfl, by omega⟩) ⟨by decide, by decide⟩ ?_
      exact ⟨by first | rw [if_pos (by omega)] | rw [if_neg (by omega)], rfl⟩
theorem w_Md_reads1 {G : zG} {X : zX} {n : Nat} {σ : zSt} {y19 : Int} {n0 f : Nat} {b : Nat → Int} (hn : 220 ≤ n) (hB : zBm b (σ 196)) (hl : σ 189 20 = (n0 : Int)) (hn0 : n0 ≤ 600) (hf : f < n0)  : ∀ (m : Nat) (x : Nat) (τ : zSt), zTqM σ τ → τ 189 16 = (f : Int) → τ 189 17 = (x : Int) → f ≤ x → x ≤ n0 → zrn (zql b) n0 x = zrn (zql b) n0 f → τ 189 21 = zfo 27 96 b f (min (x - f) 9) → τ 189 18 = 1 → τ 189 19 = y19 → n0 < x + m → Go G X m_Md_reads (2, 0, 0, 0, 0) n SH τ 169 [(0, vr G 189)] [] (zV n SH (fun σ' => zTqM σ σ' ∧ σ' 189 16 = (f : Int) ∧ σ' 189 18 = 1 ∧ σ' 189 17 = (zrn (zql b) n0 f : Int) ∧ σ' 189 21 = zfo 27 96 b f (min (zrn (zql b) n0 f - f) 9) ∧ σ' 189 19 = y19)) := by
  intro m
  induction m with
  | zero => intro x τ hT g16 g17 hx1 hx2 hz gv g18 g19 hm; exact absurd hm (by omega)
  | succ m ih =>
    intro x τ hT g16 g17 hx1 hx2 hz gv g18 g19 hm
    have eb : τ 196 = σ 196 := hT.1 196 (by decide)
    have hB1 : zBm b (τ 196) := by rw [eb]; exact hB
    have hB0 : ∀ j, j < 600 → -128 ≤ τ 196 j ∧ τ 196 j ≤ 127 := fun j hj => ⟨(hB1 j hj).1, (hB1 j hj).2.1⟩
    have g20 : τ 189 20 = (n0 : Int) := by rw [hT.2 20 (by decide) (by decide) (by decide) (by decide) (by decide)]; exact hl
    refine g_aload_n (i := 0) (by decide +kernel) rfl ?_
    refine g_aload_n (i := 0) (by decide +kernel) rfl ?_
    refine g_geti f_Md_207 (by decide +kernel) (by omega) rfl rfl ?_
    refine g_bipush (a := 97) (by decide +kernel) (by decide) ?_
    refine g_bipush (a := 122) (by decide +kernel) (by decide) ?_
    rw [g17]
    refine g_cVI (st := _) (c_Md_isOf (j := x) hn hB0 g20 hn0 (by omega) ⟨by decide, by decide⟩ ⟨by decide, by decide⟩) k_Md_isOf l_Md_216 (by decide +kernel) (by omega) rfl rfl rfl rfl (Nat.le_of_ble_eq_true rfl) (by decide) ⟨by decide, by decide⟩ ?_
    rintro a9 σ9 ⟨ea9, hσ9⟩
    obtain rfl := hσ9.symm
    subst ea9
    refine g_if_eq (off := 186) (tgt := 367) (by decide +kernel) (by decide) ⟨by omega, by omega⟩ (fun h181 => ?_) (fun h181 => ?_)
    · refine g_retV (by decide +kernel) rfl ⟨by decide, by decide⟩ ?_
      have e : zrn (zql b) n0 f = x := by
        rw [← hz]
        refine zrn_e ?_
        by_cases q : n0 ≤ x
        · exact Or.inl q
        · refine Or.inr (Bool.eq_false_iff.mpr (fun y => zit0 h181 ?_))
          have y2 := zql_iff.mp y
          have hb := hB1 x (by omega)
          exact ⟨by omega, by omega, by omega⟩
      exact ⟨hT, g16, g18, by rw [e]; exact g17, by rw [e]; exact gv, g19⟩
    · have hi := zit1 h181
      have hb := hB1 x (by omega)
      refine g_aload_n (i := 0) (by decide +kernel) rfl ?_
      refine g_aload_n (i := 0) (by decide +kernel) rfl ?_
      refine g_geti f_Md_207 (by decide +kernel) (by omega) rfl rfl ?_
      refine g_aload_n (i := 0) (by decide +kernel) rfl ?_
      refine g_geti f_Md_210 (by decide +kernel) (by omega) rfl rfl ?_
      refine g_isub (by decide +kernel) ?_
      refine g_bipush (a := 9) (by decide +kernel) (by decide) ?_
      refine g_icmp_ge (off := 29) (tgt := 225) (by decide +kernel) (by decide) ⟨by omega, by omega⟩ ⟨by omega, by omega⟩ (fun h196 => ?_) (fun h196 => ?_)
      · refine g_aload_n (i := 0) (by decide +kernel) rfl ?_
        refine g_getl f_Md_219 (by decide +kernel) (by omega) rfl rfl ?_
        refine g_putl f_Md_219 (by decide +kernel) (by omega) rfl rfl ?_
        refine g_aload_n (i := 0) (by decide +kernel) rfl ?_
        refine g_dup (by decide +kernel) rfl ?_
        refine g_geti f_Md_207 (by decide +kernel) (by omega) rfl rfl ?_
        refine g_iconst (a := 1) (by decide +kernel) ?_
        refine g_iadd (by decide +kernel) ?_
        refine g_puti f_Md_207 (by decide +kernel) (by omega) rfl rfl ?_
        refine g_goto (off := -73) (tgt := 169) (by decide +kernel) (by decide) ?_
        have hq : zql b x = true := zql_iff.mpr (by omega)
        refine ih (x + 1) _ ((hT.put (by decide)).put (by decide)) (by rw [zs_ne (by decide), zs_ne (by decide)]; exact g16) (by rw [zs_eq, zs_ne (by decide), g17]; push_cast; rfl) (by omega) (by omega) (by rw [← zrn_s (by omega) hq]; exact hz) ?_ (by rw [zs_ne (by decide), zs_ne (by decide)]; exact g18) (by rw [zs_ne (by decide), zs_ne (by decide)]; exact g19) (by omega)
        rw [zs_ne (by decide), zs_eq]
        first
          | (have hz2 : τ 189 17 - τ 189 16 < 9 := h196
             rw [show min (x + 1 - f) 9 = (x - f) + 1 by omega]
             show _ = zfo 27 96 b f (x - f) * 27 + (b (f + (x - f)) - 96)
             rw [show min (x - f) 9 = x - f by omega] at gv
             rw [show f + (x - f) = x by omega, gv]
             omega)
          | (have hz2 : 9 ≤ τ 189 17 - τ 189 16 := h196
             rw [show min (x + 1 - f) 9 = min (x - f) 9 by omega]
             exact gv)
      · refine g_ldc2 (x := 223) (a := 27) (by decide +kernel) c_Md_223 (by decide) ?_
        refine g_aload_n (i := 0) (by decide +kernel) rfl ?_
        refine g_getl f_Md_219 (by decide +kernel) (by omega) rfl rfl ?_
        refine g_lmul (by decide +kernel) ?_
        refine g_aload_n (i := 0) (by decide +kernel) rfl ?_
        refine g_getr f_Md_30 (by decide +kernel) (by omega) rfl rfl ?_
        refine g_aload_n (i := 0) (by decide +kernel) rfl ?_
        refine g_geti f_Md_207 (by decide +kernel) (by omega) rfl rfl ?_
        refine g_bald (j := x) (by decide +kernel) (by omega) rfl g17 (by omega) (by decide) ?_
        refine g_i2l (by decide +kernel) ⟨by omega, by omega⟩ ?_
        refine g_ladd (by decide +kernel) ?_
        refine g_ldc2 (x := 225) (a := 96) (by decide +kernel) c_Md_225 (by decide) ?_
        refine g_lsub (by decide +kernel) ?_
        refine g_goto (off := 7) (tgt := 229) (by decide +kernel) (by decide) ?_
        refine g_putl f_Md_219 (by decide +kernel) (by omega) rfl rfl ?_
        refine g_aload_n (i := 0) (by decide +kernel) rfl ?_
        refine g_dup (by decide +kernel) rfl ?_
        refine g_geti f_Md_207 (by decide +kernel) (by omega) rfl rfl ?_
        refine g_iconst (a := 1) (by decide +kernel) ?_
        refine g_iadd (by decide +kernel) ?_
        refine g_puti f_Md_207 (by decide +kernel) (by omega) rfl rfl ?_
        refine g_goto (off := -73) (tgt := 169) (by decide +kernel) (by decide) ?_
        have hq : zql b x = true := zql_iff.mpr (by omega)
        refine ih (x + 1) _ ((hT.put (by decide)).put (by decide)) (by rw [zs_ne (by decide), zs_ne (by decide)]; exact g16) (by rw [zs_eq, zs_ne (by decide), g17]; push_cast; rfl) (by omega) (by omega) (by rw [← zrn_s (by omega) hq]; exact hz) ?_ (by rw [zs_ne (by decide), zs_ne (by decide)]; exact g18) (by rw [zs_ne (by decide), zs_ne (by decide)]; exact g19) (by omega)
        rw [zs_ne (by decide), zs_eq]
        first
          | (have hz2 : τ 189 17 - τ 189 16 < 9 := h196
             rw [show min (x + 1 - f) 9 = (x - f) + 1 by omega]
             show _ = zfo 27 96 b f (x - f) * 27 + (b (f + (x - f)) - 96)
             rw [show min (x - f) 9 = x - f by omega] at gv
             rw [show f + (x - f) = x by omega, gv]
             omega)
          | (have hz2 : 9 ≤ τ 189 17 - τ 189 16 := h196
             rw [show min (x + 1 - f) 9 = min (x - f) 9 by omega]
             exact gv)
theorem w_Md_reads2 {G : zG} {X : zX} {n : Nat} {σ : zSt} {y21 : Int} {n0 f : Nat} {b : Nat → Int} (hn : 220 ≤ n) (hB : zBm b (σ 196)) (hl : σ 189 20 = (n0 : Int)) (hn0 : n0 ≤ 600) (hf : f < n0)  : ∀ (m : Nat) (x : Nat) (τ : zSt), zTqM σ τ → τ 189 16 = (f : Int) → τ 189 17 = (x : Int) → f ≤ x → x ≤ n0 → zrn (zqd b) n0 x = zrn (zqd b) n0 f → τ 189 19 = zfo 10 48 b f (min (x - f) 4) → τ 189 21 = y21 → n0 < x + m → Go G X m_Md_reads (2, 0, 0, 0, 0) n SH τ 273 [(0, vr G 189)] [] (zV n SH (fun σ' => zTqM σ σ' ∧ σ' 189 16 = (f : Int) ∧ σ' 189 18 = (if zrn (zqd b) n0 f - f > 4 then 4 else 2) ∧ σ' 189 17 = (zrn (zqd b) n0 f : Int) ∧ σ' 189 19 = zfo 10 48 b f (min (zrn (zqd b) n0 f - f) 4) ∧ σ' 189 21 = y21)) := by
  intro m
  induction m with
  | zero => intro x τ hT g16 g17 hx1 hx2 hz gv g21 hm; exact absurd hm (by omega)
  | succ m ih =>
    intro x τ hT g16 g17 hx1 hx2 hz gv g21 hm
    have eb : τ 196 = σ 196 := hT.1 196 (by decide)
    have hB1 : zBm b (τ 196) := by rw [eb]; exact hB
    have hB0 : ∀ j, j < 600 → -128 ≤ τ 196 j ∧ τ 196 j ≤ 127 := fun j hj => ⟨(hB1 j hj).1, (hB1 j hj).2.1⟩
    have g20 : τ 189 20 = (n0 : Int) := by rw [hT.2 20 (by decide) (by decide) (by decide) (by decide) (by decide)]; exact hl
    refine g_aload_n (i := 0) (by decide +kernel) rfl ?_
    refine g_aload_n (i := 0) (by decide +kernel) rfl ?_
    refine g_geti f_Md_207 (by decide +kernel) (by omega) rfl rfl ?_
    refine g_bipush (a := 48) (by decide +kernel) (by decide) ?_
    refine g_bipush (a := 57) (by decide +kernel) (by decide) ?_
    rw [g17]
    refine g_cVI (st := _) (c_Md_isOf (j := x) hn hB0 g20 hn0 (by omega) ⟨by decide, by decide⟩ ⟨by decide, by decide⟩) k_Md_isOf l_Md_216 (by decide +kernel) (by omega) rfl rfl rfl rfl (Nat.le_of_ble_eq_true rfl) (by decide) ⟨by decide, by decide⟩ ?_
    rintro a9 σ9 ⟨ea9, hσ9⟩
    obtain rfl := hσ9.symm
    subst ea9
    refine g_if_eq (off := 60) (tgt := 345) (by decide +kernel) (by decide) ⟨by omega, by omega⟩ (fun h285 => ?_) (fun h285 => ?_)
    · refine g_aload_n (i := 0) (by decide +kernel) rfl ?_
      refine g_aload_n (i := 0) (by decide +kernel) rfl ?_
      refine g_geti f_Md_207 (by decide +kernel) (by omega) rfl rfl ?_
      refine g_aload_n (i := 0) (by decide +kernel) rfl ?_
      refine g_geti f_Md_210 (by decide +kernel) (by omega) rfl rfl ?_
      refine g_isub (by decide +kernel) ?_
      refine g_iconst (a := 4) (by decide +kernel) ?_
      refine g_icmp_le (off := 7) (tgt := 363) (by decide +kernel) (by decide) ⟨by omega, by omega⟩ ⟨by omega, by omega⟩ (fun h356 => ?_) (fun h356 => ?_)
      · refine g_iconst (a := 2) (by decide +kernel) ?_
        refine g_puti f_Md_213 (by decide +kernel) (by omega) rfl rfl ?_
        refine g_retV (by decide +kernel) rfl ⟨by decide, by decide⟩ ?_
        have e : zrn (zqd b) n0 f = x := by
          rw [← hz]
          refine zrn_e ?_
          by_cases q : n0 ≤ x
          · exact Or.inl q
          · refine Or.inr (Bool.eq_false_iff.mpr (fun y => zit0 h285 ?_))
            have y2 := zqd_iff.mp y
            have hb := hB1 x (by omega)
            exact ⟨by omega, by omega, by omega⟩
        exact ⟨hT.put (by decide), by rw [zs_ne (by decide)]; exact g16, by rw [zs_eq, e]; first | rw [if_pos (by omega)] | rw [if_neg (by omega)], by rw [zs_ne (by decide), e]; exact g17, by rw [zs_ne (by decide), e]; exact gv, by rw [zs_ne (by decide)]; exact g21⟩
      · refine g_iconst (a := 4) (by decide +kernel) ?_
        refine g_goto (off := 4) (tgt := 364) (by decide +kernel) (by decide) ?_
        refine g_puti f_Md_213 (by decide +kernel) (by omega) rfl rfl ?_
        refine g_retV (by decide +kernel) rfl ⟨by decide, by decide⟩ ?_
        have e : zrn (zqd b) n0 f = x := by
          rw [← hz]
          refine zrn_e ?_
          by_cases q : n0 ≤ x
          · exact Or.inl q
          · refine Or.inr (Bool.eq_false_iff.mpr (fun y => zit0 h285 ?_))
            have y2 := zqd_iff.mp y
            have hb := hB1 x (by omega)
            exact ⟨by omega, by omega, by omega⟩
        exact ⟨hT.put (by decide), by rw [zs_ne (by decide)]; exact g16, by rw [zs_eq, e]; first | rw [if_pos (by omega)] | rw [if_neg (by omega)], by rw [zs_ne (by decide), e]; exact g17, by rw [zs_ne (by decide), e]; exact gv, by rw [zs_ne (by decide)]; exact g21⟩
    · have hi := zit1 h285
      have hb := hB1 x (by omega)
      refine g_aload_n (i := 0) (by decide +kernel) rfl ?_
      refine g_aload_n (i := 0) (by decide +kernel) rfl ?_
      refine g_geti f_Md_207 (by decide +kernel) (by omega) rfl rfl ?_
      refine g_aload_n (i := 0) (by decide +kernel) rfl ?_
      refine g_geti f_Md_210 (by decide +kernel) (by omega) rfl rfl ?_
      refine g_isub (by decide +kernel) ?_
      refine g_iconst (a := 4) (by decide +kernel) ?_
      refine g_icmp_ge (off := 26) (tgt := 325) (by decide +kernel) (by decide) ⟨by omega, by omega⟩ ⟨by omega, by omega⟩ (fun h299 => ?_) (fun h299 => ?_)
      · refine g_aload_n (i := 0) (by decide +kernel) rfl ?_
        refine g_geti f_Md_227 (by decide +kernel) (by omega) rfl rfl ?_
        refine g_puti f_Md_227 (by decide +kernel) (by omega) rfl rfl ?_
        refine g_aload_n (i := 0) (by decide +kernel) rfl ?_
        refine g_dup (by decide +kernel) rfl ?_
        refine g_geti f_Md_207 (by decide +kernel) (by omega) rfl rfl ?_
        refine g_iconst (a := 1) (by decide +kernel) ?_
        refine g_iadd (by decide +kernel) ?_
        refine g_puti f_Md_207 (by decide +kernel) (by omega) rfl rfl ?_
        refine g_goto (off := -69) (tgt := 273) (by decide +kernel) (by decide) ?_
        have hq : zqd b x = true := zqd_iff.mpr (by omega)
        refine ih (x + 1) _ ((hT.put (by decide)).put (by decide)) (by rw [zs_ne (by decide), zs_ne (by decide)]; exact g16) (by rw [zs_eq, zs_ne (by decide), g17]; push_cast; rfl) (by omega) (by omega) (by rw [← zrn_s (by omega) hq]; exact hz) ?_ (by rw [zs_ne (by decide), zs_ne (by decide)]; exact g21) (by omega)
        rw [zs_ne (by decide), zs_eq]
        first
          | (have hz2 : τ 189 17 - τ 189 16 < 4 := h299
             rw [show min (x + 1 - f) 4 = (x - f) + 1 by omega]
             show _ = zfo 10 48 b f (x - f) * 10 + (b (f + (x - f)) - 48)
             rw [show min (x - f) 4 = x - f by omega] at gv
             rw [show f + (x - f) = x by omega, gv]
             omega)
          | (have hz2 : 4 ≤ τ 189 17 - τ 189 16 := h299
             rw [show min (x + 1 - f) 4 = min (x - f) 4 by omega]
             exact gv)
      · refine g_bipush (a := 10) (by decide +kernel) (by decide) ?_
        refine g_aload_n (i := 0) (by decide +kernel) rfl ?_
        refine g_geti f_Md_227 (by decide +kernel) (by omega) rfl rfl ?_
        refine g_imul (by decide +kernel) ?_
        refine g_aload_n (i := 0) (by decide +kernel) rfl ?_
        refine g_getr f_Md_30 (by decide +kernel) (by omega) rfl rfl ?_
        refine g_aload_n (i := 0) (by decide +kernel) rfl ?_
        refine g_geti f_Md_207 (by decide +kernel) (by omega) rfl rfl ?_
        refine g_bald (j := x) (by decide +kernel) (by omega) rfl g17 (by omega) (by decide) ?_
        refine g_iadd (by decide +kernel) ?_
        refine g_bipush (a := 48) (by decide +kernel) (by decide) ?_
        refine g_isub (by decide +kernel) ?_
        refine g_goto (off := 7) (tgt := 329) (by decide +kernel) (by decide) ?_
        refine g_puti f_Md_227 (by decide +kernel) (by omega) rfl rfl ?_
        refine g_aload_n (i := 0) (by decide +kernel) rfl ?_
        refine g_dup (by decide +kernel) rfl ?_
        refine g_geti f_Md_207 (by decide +kernel) (by omega) rfl rfl ?_
        refine g_iconst (a := 1) (by decide +kernel) ?_
        refine g_iadd (by decide +kernel) ?_
        refine g_puti f_Md_207 (by decide +kernel) (by omega) rfl rfl ?_
        refine g_goto (off := -69) (tgt := 273) (by decide +kernel) (by decide) ?_
        have hq : zqd b x = true := zqd_iff.mpr (by omega)
        refine ih (x + 1) _ ((hT.put (by decide)).put (by decide)) (by rw [zs_ne (by decide), zs_ne (by decide)]; exact g16) (by rw [zs_eq, zs_ne (by decide), g17]; push_cast; rfl) (by omega) (by omega) (by rw [← zrn_s (by omega) hq]; exact hz) ?_ (by rw [zs_ne (by decide), zs_ne (by decide)]; exact g21) (by omega)
        rw [zs_ne (by decide), zs_eq]
        first
          | (have hz2 : τ 189 17 - τ 189 16 < 4 := h299
             rw [show min (x + 1 - f) 4 = (x - f) + 1 by omega]
             show _ = zfo 10 48 b f (x - f) * 10 + (b (f + (x - f)) - 48)
             rw [show min (x - f) 4 = x - f by omega] at gv
             rw [show f + (x - f) = x by omega, gv]
             omega)
          | (have hz2 : 4 ≤ τ 189 17 - τ 189 16 := h299
             rw [show min (x + 1 - f) 4 = min (x - f) 4 by omega]
             exact gv)
theorem w_Md_reads0 {G : zG} {X : zX} {n : Nat} {σ : zSt} {n0 p : Nat} {b : Nat → Int} (hn : 220 ≤ n) (hB : zBm b (σ 196)) (hl : σ 189 20 = (n0 : Int)) (hn0 : n0 ≤ 600) (hp : p ≤ n0)  : ∀ (m : Nat) (x : Nat) (τ : zSt), zTqM σ τ → τ 189 16 = (x : Int) → τ 189 19 = σ 189 19 → τ 189 21 = σ 189 21 → p ≤ x → x ≤ n0 → zrn (zqs b) n0 x = zrn (zqs b) n0 p → n0 < x + m → Go G X m_Md_reads (2, 0, 0, 0, 0) n SH τ 8 [(0, vr G 189)] [] (zV n SH (fun σ' => zTkM σ σ' b n0 p)) := by
  intro m
  induction m with
  | zero => intro x τ hT g16 g19 g21 hx1 hx2 hz hm; exact absurd hm (by omega)
  | succ m ih =>
    intro x τ hT g16 g19 g21 hx1 hx2 hz hm
    have eb : τ 196 = σ 196 := hT.1 196 (by decide)
    have hB1 : zBm b (τ 196) := by rw [eb]; exact hB
    have hB0 : ∀ j, j < 600 → -128 ≤ τ 196 j ∧ τ 196 j ≤ 127 := fun j hj => ⟨(hB1 j hj).1, (hB1 j hj).2.1⟩
    have g20 : τ 189 20 = (n0 : Int) := by rw [hT.2 20 (by decide) (by decide) (by decide) (by decide) (by decide)]; exact hl
    have J136 : zrn (zqs b) n0 p = x → ∀ υ, zTqM σ υ → υ 189 16 = (x : Int) → υ 189 17 = (x : Int) + 1 → υ 189 18 = (if n0 ≤ x then 0 else if b x = 40 ∨ b x = 41 ∨ b x = 59 then 3 else 4) → υ 189 19 = σ 189 19 → υ 189 21 = σ 189 21 → Go G X m_Md_reads (2, 0, 0, 0, 0) n SH υ 136 [(0, vr G 189)] [] (zV n SH (fun σ' => zTkM σ σ' b n0 p)) := by
      intro ez υ hU u16 u17 u18 u19 u21
      have eb : υ 196 = σ 196 := hU.1 196 (by decide)
      have hB1 : zBm b (υ 196) := by rw [eb]; exact hB
      have hB0 : ∀ j, j < 600 → -128 ≤ υ 196 j ∧ υ 196 j ≤ 127 := fun j hj => ⟨(hB1 j hj).1, (hB1 j hj).2.1⟩
      have g20 : υ 189 20 = (n0 : Int) := by rw [hU.2 20 (by decide) (by decide) (by decide) (by decide) (by decide)]; exact hl
      refine g_aload_n (i := 0) (by decide +kernel) rfl ?_
      refine g_aload_n (i := 0) (by decide +kernel) rfl ?_
      refine g_geti f_Md_210 (by decide +kernel) (by omega) rfl rfl ?_
      refine g_bipush (a := 97) (by decide +kernel) (by decide) ?_
      refine g_bipush (a := 122) (by decide +kernel) (by decide) ?_
      rw [u16]
      refine g_cVI (st := _) (c_Md_isOf (j := x) hn hB0 g20 hn0 (by omega) ⟨by decide, by decide⟩ ⟨by decide, by decide⟩) k_Md_isOf l_Md_216 (by decide +kernel) (by omega) rfl rfl rfl rfl (Nat.le_of_ble_eq_true rfl) (by decide) ⟨by decide, by decide⟩ ?_
      rintro a9 σ9 ⟨ea9, hσ9⟩
      obtain rfl := hσ9.symm
      subst ea9
      refine g_if_eq (off := 97) (tgt := 245) (by decide +kernel) (by decide) ⟨by omega, by omega⟩ (fun h148 => ?_) (fun h148 => ?_)
      · have hL : n0 ≤ x ∨ ¬ zql b x = true := by
          by_cases q : n0 ≤ x
          · exact Or.inl q
          · refine Or.inr (fun y => zit0 h148 ?_)
            have y2 := zql_iff.mp y
            have hb := hB1 x (by omega)
            exact ⟨by omega, by omega, by omega⟩
        refine g_aload_n (i := 0) (by decide +kernel) rfl ?_
        refine g_aload_n (i := 0) (by decide +kernel) rfl ?_
        refine g_geti f_Md_210 (by decide +kernel) (by omega) rfl rfl ?_
        refine g_bipush (a := 48) (by decide +kernel) (by decide) ?_
        refine g_bipush (a := 57) (by decide +kernel) (by decide) ?_
        rw [u16]
        refine g_cVI (st := _) (c_Md_isOf (j := x) hn hB0 g20 hn0 (by omega) ⟨by decide, by decide⟩ ⟨by decide, by decide⟩) k_Md_isOf l_Md_216 (by decide +kernel) (by omega) rfl rfl rfl rfl (Nat.le_of_ble_eq_true rfl) (by decide) ⟨by decide, by decide⟩ ?_
        rintro a9 σ9 ⟨ea9, hσ9⟩
        obtain rfl := hσ9.symm
        subst ea9
        refine g_if_eq (off := 110) (tgt := 367) (by decide +kernel) (by decide) ⟨by omega, by omega⟩ (fun h257 => ?_) (fun h257 => ?_)
        · have hD : n0 ≤ x ∨ ¬ zqd b x = true := by
            by_cases q : n0 ≤ x
            · exact Or.inl q
            · refine Or.inr (fun y => zit0 h257 ?_)
              have y2 := zqd_iff.mp y
              have hb := hB1 x (by omega)
              exact ⟨by omega, by omega, by omega⟩
          refine g_retV (by decide +kernel) rfl ⟨by decide, by decide⟩ ?_
          show zTkM _ _ _ _ _
          unfold zTkM zTt zTb
          rw [ez]
          have c1 : ¬ (x < n0 ∧ zql b x = true) := fun y => by rcases hL with q | q; omega; exact q y.2
          have c2 : ¬ (x < n0 ∧ zqd b x = true) := fun y => by rcases hD with q | q; omega; exact q y.2
          by_cases q : n0 ≤ x
          · simp only [if_pos q, if_neg c1, if_neg c2]
            rw [if_pos q] at u18
            exact ⟨hU, u16, u18, u17, u21, u19⟩
          · have d1 : ¬ zql b x = true := fun y => c1 ⟨by omega, y⟩
            have d2 : ¬ zqd b x = true := fun y => c2 ⟨by omega, y⟩
            simp only [if_neg q, if_neg c1, if_neg c2, if_neg d1, if_neg d2]
            rw [if_neg q] at u18
            refine ⟨hU, u16, ?_, by rw [u17]; push_cast; rfl, u21, u19⟩
            rw [u18]
            split <;> rfl
        · have hi := zit1 h257
          have hb := hB1 x (by omega)
          have hD : zqd b x = true := zqd_iff.mpr (by omega)
          refine g_aload_n (i := 0) (by decide +kernel) rfl ?_
          refine g_iconst (a := 0) (by decide +kernel) ?_
          refine g_puti f_Md_227 (by decide +kernel) (by omega) rfl rfl ?_
          refine g_aload_n (i := 0) (by decide +kernel) rfl ?_
          refine g_aload_n (i := 0) (by decide +kernel) rfl ?_
          refine g_geti f_Md_210 (by decide +kernel) (by omega) rfl rfl ?_
          refine g_puti f_Md_207 (by decide +kernel) (by omega) rfl rfl ?_
          refine Go.mono (w_Md_reads2 (y21 := σ 189 21) (f := x) hn hB hl hn0 hi.1 (n0 + 1) x _ ((hU.put (by decide)).put (by decide)) (by rw [zs_ne (by decide), zs_ne (by decide)]; exact u16) (by rw [zs_eq, zs_ne (by decide)]; exact u16) (Nat.le_refl _) (by omega) rfl (by rw [zs_ne (by decide), zs_eq, Nat.sub_self]; rfl) (by rw [zs_ne (by decide), zs_ne (by decide)]; exact u21) (by omega)) ?_
          rintro r n' sh' σ' ⟨⟨e1, k1, k2, k3, k4, k5, k6⟩, e2, e3⟩
          refine ⟨⟨e1, ?_⟩, e2, e3⟩
          show zTkM _ _ _ _ _
          have hnl : ¬ zql b x = true := fun y => by have a1 := zqd_iff.mp hD; have a2 := zql_iff.mp y; omega
          unfold zTkM zTt zTb
          rw [ez]
          simp only [if_neg (show ¬ n0 ≤ x by omega), if_neg hnl, if_pos hD, if_pos (show x < n0 ∧ zqd b x = true from ⟨hi.1, hD⟩), if_neg (show ¬ (x < n0 ∧ zql b x = true) from fun y => hnl y.2)]
          refine ⟨k1, k2, ?_, k4, k6, k5⟩
          rw [k3]
          split <;> rfl
      · have hi := zit1 h148
        have hb := hB1 x (by omega)
        have hL : zql b x = true := zql_iff.mpr (by omega)
        refine g_aload_n (i := 0) (by decide +kernel) rfl ?_
        refine g_iconst (a := 1) (by decide +kernel) ?_
        refine g_puti f_Md_213 (by decide +kernel) (by omega) rfl rfl ?_
        refine g_aload_n (i := 0) (by decide +kernel) rfl ?_
        refine g_lconst (c := 0) (a := 0) (by decide +kernel) (by decide) ?_
        refine g_putl f_Md_219 (by decide +kernel) (by omega) rfl rfl ?_
        refine g_aload_n (i := 0) (by decide +kernel) rfl ?_
        refine g_aload_n (i := 0) (by decide +kernel) rfl ?_
        refine g_geti f_Md_210 (by decide +kernel) (by omega) rfl rfl ?_
        refine g_puti f_Md_207 (by decide +kernel) (by omega) rfl rfl ?_
        refine Go.mono (w_Md_reads1 (y19 := σ 189 19) (f := x) hn hB hl hn0 hi.1 (n0 + 1) x _ (((hU.put (by decide)).put (by decide)).put (by decide)) (by rw [zs_ne (by decide), zs_ne (by decide), zs_ne (by decide)]; exact u16) (by rw [zs_eq, zs_ne (by decide), zs_ne (by decide)]; exact u16) (Nat.le_refl _) (by omega) rfl (by rw [zs_ne (by decide), zs_eq, Nat.sub_self]; rfl) (by rw [zs_ne (by decide), zs_ne (by decide), zs_eq]) (by rw [zs_ne (by decide), zs_ne (by decide), zs_ne (by decide)]; exact u19) (by omega)) ?_
        rintro r n' sh' σ' ⟨⟨e1, k1, k2, k3, k4, k5, k6⟩, e2, e3⟩
        refine ⟨⟨e1, ?_⟩, e2, e3⟩
        show zTkM _ _ _ _ _
        have hnd : ¬ zqd b x = true := fun y => by have a1 := zql_iff.mp hL; have a2 := zqd_iff.mp y; omega
        unfold zTkM zTt zTb
        rw [ez]
        simp only [if_neg (show ¬ n0 ≤ x by omega), if_pos hL, if_pos (show x < n0 ∧ zql b x = true from ⟨hi.1, hL⟩), if_neg (show ¬ (x < n0 ∧ zqd b x = true) from fun y => hnd y.2)]
        exact ⟨k1, k2, k3, k4, k5, k6⟩
    refine g_aload_n (i := 0) (by decide +kernel) rfl ?_
    refine g_geti f_Md_210 (by decide +kernel) (by omega) rfl rfl ?_
    refine g_aload_n (i := 0) (by decide +kernel) rfl ?_
    refine g_geti f_Md_204 (by decide +kernel) (by omega) rfl rfl ?_
    refine g_icmp_ge (off := 44) (tgt := 60) (by decide +kernel) (by decide) ⟨by omega, by omega⟩ ⟨by omega, by omega⟩ (fun h16 => ?_) (fun h16 => ?_)
    · refine g_aload_n (i := 0) (by decide +kernel) rfl ?_
      refine g_aload_n (i := 0) (by decide +kernel) rfl ?_
      refine g_geti f_Md_210 (by decide +kernel) (by omega) rfl rfl ?_
      refine g_iconst (a := 1) (by decide +kernel) ?_
      refine g_iadd (by decide +kernel) ?_
      refine g_puti f_Md_207 (by decide +kernel) (by omega) rfl rfl ?_
      obtain ⟨υ, eυ⟩ : ∃ υ, υ = zs τ 189 17 (τ 189 16 + 1) := ⟨_, rfl⟩
      rw [← eυ]
      have hU : zTqM σ υ := by rw [eυ]; exact hT.put (by decide)
      have y16 : υ 189 16 = (x : Int) := by rw [eυ, zs_ne (by decide)]; exact g16
      have y17 : υ 189 17 = (x : Int) + 1 := by rw [eυ, zs_eq, g16]
      have y19 : υ 189 19 = σ 189 19 := by rw [eυ, zs_ne (by decide)]; exact g19
      have y21 : υ 189 21 = σ 189 21 := by rw [eυ, zs_ne (by decide)]; exact g21
      have y20 : υ 189 20 = (n0 : Int) := by rw [eυ, zs_ne (by decide)]; exact g20
      have yb : υ 196 = τ 196 := by rw [eυ, zs_other (by decide)]
      have yc : υ 196 x = τ 196 x := by rw [yb]
      have hE : zrn (zqs b) n0 p = x := by
        rw [← hz]
        refine zrn_e ?_
        first
        | exact Or.inl (by omega)
        | exact Or.inr (Bool.eq_false_iff.mpr (fun e => absurd (zqs_iff.mp e) (by omega)))
      refine g_aload_n (i := 0) (by decide +kernel) rfl ?_
      refine g_aload_n (i := 0) (by decide +kernel) rfl ?_
      refine g_geti f_Md_210 (by decide +kernel) (by omega) rfl rfl ?_
      refine g_aload_n (i := 0) (by decide +kernel) rfl ?_
      refine g_geti f_Md_204 (by decide +kernel) (by omega) rfl rfl ?_
      refine g_icmp_lt (off := 7) (tgt := 86) (by decide +kernel) (by decide) ⟨by omega, by omega⟩ ⟨by omega, by omega⟩ (fun h79 => ?_) (fun h79 => ?_)
      · refine g_aload_n (i := 0) (by decide +kernel) rfl ?_
        refine g_getr f_Md_30 (by decide +kernel) (by omega) rfl rfl ?_
        refine g_aload_n (i := 0) (by decide +kernel) rfl ?_
        refine g_geti f_Md_210 (by decide +kernel) (by omega) rfl rfl ?_
        refine g_bald (j := x) (by decide +kernel) (by omega) rfl y16 (by omega) (by decide) ?_
        refine g_bipush (a := 40) (by decide +kernel) (by decide) ?_
        refine g_icmp_eq (off := 31) (tgt := 128) (by decide +kernel) (by decide) ⟨by omega, by omega⟩ ⟨by omega, by omega⟩ (fun h97 => ?_) (fun h97 => ?_)
        · refine g_iconst (a := 3) (by decide +kernel) ?_
          refine g_goto (off := 4) (tgt := 133) (by decide +kernel) (by decide) ?_
          refine g_puti f_Md_213 (by decide +kernel) (by omega) rfl rfl ?_
          refine J136 hE _ (hU.put (by decide)) (by rw [zs_ne (by decide)]; exact y16) (by rw [zs_ne (by decide)]; exact y17) ?_ (by rw [zs_ne (by decide)]; exact y19) (by rw [zs_ne (by decide)]; exact y21)
          rw [zs_eq]
          first
            | (exfalso; omega)
            | rw [if_pos (by omega)]
            | (have hb9 := hB1 x (by omega)
               rw [if_neg (by omega)]
               first | rw [if_pos (by omega)] | rw [if_neg (by omega)])
        · refine g_aload_n (i := 0) (by decide +kernel) rfl ?_
          refine g_getr f_Md_30 (by decide +kernel) (by omega) rfl rfl ?_
          refine g_aload_n (i := 0) (by decide +kernel) rfl ?_
          refine g_geti f_Md_210 (by decide +kernel) (by omega) rfl rfl ?_
          refine g_bald (j := x) (by decide +kernel) (by omega) rfl y16 (by omega) (by decide) ?_
          refine g_bipush (a := 41) (by decide +kernel) (by decide) ?_
          refine g_icmp_eq (off := 17) (tgt := 128) (by decide +kernel) (by decide) ⟨by omega, by omega⟩ ⟨by omega, by omega⟩ (fun h111 => ?_) (fun h111 => ?_)
          · refine g_iconst (a := 3) (by decide +kernel) ?_
            refine g_goto (off := 4) (tgt := 133) (by decide +kernel) (by decide) ?_
            refine g_puti f_Md_213 (by decide +kernel) (by omega) rfl rfl ?_
            refine J136 hE _ (hU.put (by decide)) (by rw [zs_ne (by decide)]; exact y16) (by rw [zs_ne (by decide)]; exact y17) ?_ (by rw [zs_ne (by decide)]; exact y19) (by rw [zs_ne (by decide)]; exact y21)
            rw [zs_eq]
            first
              | (exfalso; omega)
              | rw [if_pos (by omega)]
              | (have hb9 := hB1 x (by omega)
                 rw [if_neg (by omega)]
                 first | rw [if_pos (by omega)] | rw [if_neg (by omega)])
          · refine g_aload_n (i := 0) (by decide +kernel) rfl ?_
            refine g_getr f_Md_30 (by decide +kernel) (by omega) rfl rfl ?_
            refine g_aload_n (i := 0) (by decide +kernel) rfl ?_
            refine g_geti f_Md_210 (by decide +kernel) (by omega) rfl rfl ?_
            refine g_bald (j := x) (by decide +kernel) (by omega) rfl y16 (by omega) (by decide) ?_
            refine g_bipush (a := 59) (by decide +kernel) (by decide) ?_
            refine g_icmp_ne (off := 7) (tgt := 132) (by decide +kernel) (by decide) ⟨by omega, by omega⟩ ⟨by omega, by omega⟩ (fun h125 => ?_) (fun h125 => ?_)
            · refine g_iconst (a := 4) (by decide +kernel) ?_
              refine g_puti f_Md_213 (by decide +kernel) (by omega) rfl rfl ?_
              refine J136 hE _ (hU.put (by decide)) (by rw [zs_ne (by decide)]; exact y16) (by rw [zs_ne (by decide)]; exact y17) ?_ (by rw [zs_ne (by decide)]; exact y19) (by rw [zs_ne (by decide)]; exact y21)
              rw [zs_eq]
              first
                | (exfalso; omega)
                | rw [if_pos (by omega)]
                | (have hb9 := hB1 x (by omega)
                   rw [if_neg (by omega)]
                   first | rw [if_pos (by omega)] | rw [if_neg (by omega)])
            · refine g_iconst (a := 3) (by decide +kernel) ?_
              refine g_goto (off := 4) (tgt := 133) (by decide +kernel) (by decide) ?_
              refine g_puti f_Md_213 (by decide +kernel) (by omega) rfl rfl ?_
              refine J136 hE _ (hU.put (by decide)) (by rw [zs_ne (by decide)]; exact y16) (by rw [zs_ne (by decide)]; exact y17) ?_ (by rw [zs_ne (by decide)]; exact y19) (by rw [zs_ne (by decide)]; exact y21)
              rw [zs_eq]
              first
                | (exfalso; omega)
                | rw [if_pos (by omega)]
                | (have hb9 := hB1 x (by omega)
                   rw [if_neg (by omega)]
                   first | rw [if_pos (by omega)] | rw [if_neg (by omega)])
      · refine g_iconst (a := 0) (by decide +kernel) ?_
        refine g_goto (off := 50) (tgt := 133) (by decide +kernel) (by decide) ?_
        refine g_puti f_Md_213 (by decide +kernel) (by omega) rfl rfl ?_
        refine J136 hE _ (hU.put (by decide)) (by rw [zs_ne (by decide)]; exact y16) (by rw [zs_ne (by decide)]; exact y17) ?_ (by rw [zs_ne (by decide)]; exact y19) (by rw [zs_ne (by decide)]; exact y21)
        rw [zs_eq]
        first
          | (exfalso; omega)
          | rw [if_pos (by omega)]
          | (have hb9 := hB1 x (by omega)
             rw [if_neg (by omega)]
             first | rw [if_pos (by omega)] | rw [if_neg (by omega)])
    · have hb := hB1 x (by omega)
      refine g_aload_n (i := 0) (by decide +kernel) rfl ?_
      refine g_getr f_Md_30 (by decide +kernel) (by omega) rfl rfl ?_
      refine g_aload_n (i := 0) (by decide +kernel) rfl ?_
      refine g_geti f_Md_210 (by decide +kernel) (by omega) rfl rfl ?_
      refine g_bald (j := x) (by decide +kernel) (by omega) rfl g16 (by omega) (by decide) ?_
      refine g_bipush (a := 10) (by decide +kernel) (by decide) ?_
      refine g_icmp_eq (off := 17) (tgt := 47) (by decide +kernel) (by decide) ⟨by omega, by omega⟩ ⟨by omega, by omega⟩ (fun h30 => ?_) (fun h30 => ?_)
      · refine g_aload_n (i := 0) (by decide +kernel) rfl ?_
        refine g_dup (by decide +kernel) rfl ?_
        refine g_geti f_Md_210 (by decide +kernel) (by omega) rfl rfl ?_
        refine g_iconst (a := 1) (by decide +kernel) ?_
        refine g_iadd (by decide +kernel) ?_
        refine g_puti f_Md_210 (by decide +kernel) (by omega) rfl rfl ?_
        refine g_goto (off := -49) (tgt := 8) (by decide +kernel) (by decide) ?_
        exact ih (x + 1) _ (hT.put (by decide)) (by rw [zs_eq, g16]; push_cast; rfl) (by rw [zs_ne (by decide)]; exact g19) (by rw [zs_ne (by decide)]; exact g21) (by omega) (by omega) (by rw [← zrn_s (by omega) (zqs_iff.mpr (by omega))]; exact hz) (by omega)
      · refine g_aload_n (i := 0) (by decide +kernel) rfl ?_
        refine g_getr f_Md_30 (by decide +kernel) (by omega) rfl rfl ?_
        refine g_aload_n (i := 0) (by decide +kernel) rfl ?_
        refine g_geti f_Md_210 (by decide +kernel) (by omega) rfl rfl ?_
        refine g_bald (j := x) (by decide +kernel) (by omega) rfl g16 (by omega) (by decide) ?_
        refine g_bipush (a := 32) (by decide +kernel) (by decide) ?_
        refine g_icmp_ne (off := 16) (tgt := 60) (by decide +kernel) (by decide) ⟨by omega, by omega⟩ ⟨by omega, by omega⟩ (fun h44 => ?_) (fun h44 => ?_)
        · refine g_aload_n (i := 0) (by decide +kernel) rfl ?_
          refine g_aload_n (i := 0) (by decide +kernel) rfl ?_
          refine g_geti f_Md_210 (by decide +kernel) (by omega) rfl rfl ?_
          refine g_iconst (a := 1) (by decide +kernel) ?_
          refine g_iadd (by decide +kernel) ?_
          refine g_puti f_Md_207 (by decide +kernel) (by omega) rfl rfl ?_
          obtain ⟨υ, eυ⟩ : ∃ υ, υ = zs τ 189 17 (τ 189 16 + 1) := ⟨_, rfl⟩
          rw [← eυ]
          have hU : zTqM σ υ := by rw [eυ]; exact hT.put (by decide)
          have y16 : υ 189 16 = (x : Int) := by rw [eυ, zs_ne (by decide)]; exact g16
          have y17 : υ 189 17 = (x : Int) + 1 := by rw [eυ, zs_eq, g16]
          have y19 : υ 189 19 = σ 189 19 := by rw [eυ, zs_ne (by decide)]; exact g19
          have y21 : υ 189 21 = σ 189 21 := by rw [eυ, zs_ne (by decide)]; exact g21
          have y20 : υ 189 20 = (n0 : Int) := by rw [eυ, zs_ne (by decide)]; exact g20
          have yb : υ 196 = τ 196 := by rw [eυ, zs_other (by decide)]
          have yc : υ 196 x = τ 196 x := by rw [yb]
          have hE : zrn (zqs b) n0 p = x := by
            rw [← hz]
            refine zrn_e ?_
            first
            | exact Or.inl (by omega)
            | exact Or.inr (Bool.eq_false_iff.mpr (fun e => absurd (zqs_iff.mp e) (by omega)))
          refine g_aload_n (i := 0) (by decide +kernel) rfl ?_
          refine g_aload_n (i := 0) (by decide +kernel) rfl ?_
          refine g_geti f_Md_210 (by decide +kernel) (by omega) rfl rfl ?_
          refine g_aload_n (i := 0) (by decide +kernel) rfl ?_
          refine g_geti f_Md_204 (by decide +kernel) (by omega) rfl rfl ?_
          refine g_icmp_lt (off := 7) (tgt := 86) (by decide +kernel) (by decide) ⟨by omega, by omega⟩ ⟨by omega, by omega⟩ (fun h79 => ?_) (fun h79 => ?_)
          · refine g_aload_n (i := 0) (by decide +kernel) rfl ?_
            refine g_getr f_Md_30 (by decide +kernel) (by omega) rfl rfl ?_
            refine g_aload_n (i := 0) (by decide +kernel) rfl ?_
            refine g_geti f_Md_210 (by decide +kernel) (by omega) rfl rfl ?_
            refine g_bald (j := x) (by decide +kernel) (by omega) rfl y16 (by omega) (by decide) ?_
            refine g_bipush (a := 40) (by decide +kernel) (by decide) ?_
            refine g_icmp_eq (off := 31) (tgt := 128) (by decide +kernel) (by decide) ⟨by omega, by omega⟩ ⟨by omega, by omega⟩ (fun h97 => ?_) (fun h97 => ?_)
            · refine g_iconst (a := 3) (by decide +kernel) ?_
              refine g_goto (off := 4) (tgt := 133) (by decide +kernel) (by decide) ?_
              refine g_puti f_Md_213 (by decide +kernel) (by omega) rfl rfl ?_
              refine J136 hE _ (hU.put (by decide)) (by rw [zs_ne (by decide)]; exact y16) (by rw [zs_ne (by decide)]; exact y17) ?_ (by rw [zs_ne (by decide)]; exact y19) (by rw [zs_ne (by decide)]; exact y21)
              rw [zs_eq]
              first
                | (exfalso; omega)
                | rw [if_pos (by omega)]
                | (have hb9 := hB1 x (by omega)
                   rw [if_neg (by omega)]
                   first | rw [if_pos (by omega)] | rw [if_neg (by omega)])
            · refine g_aload_n (i := 0) (by decide +kernel) rfl ?_
              refine g_getr f_Md_30 (by decide +kernel) (by omega) rfl rfl ?_
              refine g_aload_n (i := 0) (by decide +kernel) rfl ?_
              refine g_geti f_Md_210 (by decide +kernel) (by omega) rfl rfl ?_
              refine g_bald (j := x) (by decide +kernel) (by omega) rfl y16 (by omega) (by decide) ?_
              refine g_bipush (a := 41) (by decide +kernel) (by decide) ?_
              refine g_icmp_eq (off := 17) (tgt := 128) (by decide +kernel) (by decide) ⟨by omega, by omega⟩ ⟨by omega, by omega⟩ (fun h111 => ?_) (fun h111 => ?_)
              · refine g_iconst (a := 3) (by decide +kernel) ?_
                refine g_goto (off := 4) (tgt := 133) (by decide +kernel) (by decide) ?_
                refine g_puti f_Md_213 (by decide +kernel) (by omega) rfl rfl ?_
                refine J136 hE _ (hU.put (by decide)) (by rw [zs_ne (by decide)]; exact y16) (by rw [zs_ne (by decide)]; exact y17) ?_ (by rw [zs_ne (by decide)]; exact y19) (by rw [zs_ne (by decide)]; exact y21)
                rw [zs_eq]
                first
                  | (exfalso; omega)
                  | rw [if_pos (by omega)]
                  | (have hb9 := hB1 x (by omega)
                     rw [if_neg (by omega)]
                     first | rw [if_pos (by omega)] | rw [if_neg (by omega)])
              · refine g_aload_n (i := 0) (by decide +kernel) rfl ?_
                refine g_getr f_Md_30 (by decide +kernel) (by omega) rfl rfl ?_
                refine g_aload_n (i := 0) (by decide +kernel) rfl ?_
                refine g_geti f_Md_210 (by decide +kernel) (by omega) rfl rfl ?_
                refine g_bald (j := x) (by decide +kernel) (by omega) rfl y16 (by omega) (by decide) ?_
                refine g_bipush (a := 59) (by decide +kernel) (by decide) ?_
                refine g_icmp_ne (off := 7) (tgt := 132) (by decide +kernel) (by decide) ⟨by omega, by omega⟩ ⟨by omega, by omega⟩ (fun h125 => ?_) (fun h125 => ?_)
                · refine g_iconst (a := 4) (by decide +kernel) ?_
                  refine g_puti f_Md_213 (by decide +kernel) (by omega) rfl rfl ?_
                  refine J136 hE _ (hU.put (by decide)) (by rw [zs_ne (by decide)]; exact y16) (by rw [zs_ne (by decide)]; exact y17) ?_ (by rw [zs_ne (by decide)]; exact y19) (by rw [zs_ne (by decide)]; exact y21)
                  rw [zs_eq]
                  first
                    | (exfalso; omega)
                    | rw [if_pos (by omega)]
                    | (have hb9 := hB1 x (by omega)
                       rw [if_neg (by omega)]
                       first | rw [if_pos (by omega)] | rw [if_neg (by omega)])
                · refine g_iconst (a := 3) (by decide +kernel) ?_
                  refine g_goto (off := 4) (tgt := 133) (by decide +kernel) (by decide) ?_
                  refine g_puti f_Md_213 (by decide +kernel) (by omega) rfl rfl ?_
                  refine J136 hE _ (hU.put (by decide)) (by rw [zs_ne (by decide)]; exact y16) (by rw [zs_ne (by decide)]; exact y17) ?_ (by rw [zs_ne (by decide)]; exact y19) (by rw [zs_ne (by decide)]; exact y21)
                  rw [zs_eq]
                  first
                    | (exfalso; omega)
                    | rw [if_pos (by omega)]
                    | (have hb9 := hB1 x (by omega)
                       rw [if_neg (by omega)]
                       first | rw [if_pos (by omega)] | rw [if_neg (by omega)])
          · refine g_iconst (a := 0) (by decide +kernel) ?_
            refine g_goto (off := 50) (tgt := 133) (by decide +kernel) (by decide) ?_
            refine g_puti f_Md_213 (by decide +kernel) (by omega) rfl rfl ?_
            refine J136 hE _ (hU.put (by decide)) (by rw [zs_ne (by decide)]; exact y16) (by rw [zs_ne (by decide)]; exact y17) ?_ (by rw [zs_ne (by decide)]; exact y19) (by rw [zs_ne (by decide)]; exact y21)
            rw [zs_eq]
            first
              | (exfalso; omega)
              | rw [if_pos (by omega)]
              | (have hb9 := hB1 x (by omega)
                 rw [if_neg (by omega)]
                 first | rw [if_pos (by omega)] | rw [if_neg (by omega)])
        · refine g_aload_n (i := 0) (by decide +kernel) rfl ?_
          refine g_dup (by decide +kernel) rfl ?_
          refine g_geti f_Md_210 (by decide +kernel) (by omega) rfl rfl ?_
          refine g_iconst (a := 1) (by decide +kernel) ?_
          refine g_iadd (by decide +kernel) ?_
          refine g_puti f_Md_210 (by decide +kernel) (by omega) rfl rfl ?_
          refine g_goto (off := -49) (tgt := 8) (by decide +kernel) (by decide) ?_
          exact ih (x + 1) _ (hT.put (by decide)) (by rw [zs_eq, g16]; push_cast; rfl) (by rw [zs_ne (by decide)]; exact g19) (by rw [zs_ne (by decide)]; exact g21) (by omega) (by omega) (by rw [← zrn_s (by omega) (zqs_iff.mpr (by omega))]; exact hz) (by omega)
theorem c_Md_reads {G : zG} {n : Nat} {σ : zSt} {n0 p : Nat} {b : Nat → Int} (hn : 220 ≤ n) (hB : zBm b (σ 196)) (hl : σ 189 20 = (n0 : Int)) (hn0 : n0 ≤ 600) (hp : p ≤ n0) (h17 : σ 189 17 = (p : Int))  : Gm G y_Md_reads m_Md_reads 2 0 0 [vr G 189] n SH σ (zV n SH (fun σ' => zTkM σ σ' b n0 p)) := by
  refine g_enter (L := [(0, _)]) (by decide) rfl rfl rfl (Nat.le_of_ble_eq_true rfl) (fun X => ?_)
  refine g_aload_n (i := 0) (by decide +kernel) rfl ?_
  refine g_aload_n (i := 0) (by decide +kernel) rfl ?_
  refine g_geti f_Md_207 (by decide +kernel) (by omega) rfl rfl ?_
  refine g_puti f_Md_210 (by decide +kernel) (by omega) rfl rfl ?_
  exact w_Md_reads0 hn hB hl hn0 hp (n0 + 1) p _ ((zTqM.rf σ).put (by decide)) (by rw [zs_eq]; exact h17) (by rw [zs_ne (by decide)]) (by rw [zs_ne (by decide)]) (Nat.le_refl _) hp rfl (by omega)
