/-! TOKENS of the class -/
theorem zit1 {c : Prop} [Decidable c] (h : (if c then (1 : Int) else 0) ≠ 0) : c := by by_cases q : c; exact q; rw [if_neg q] at h; exact absurd rfl h
theorem zit0 {c : Prop} [Decidable c] (h : (if c then (1 : Int) else 0) = 0) : ¬ c := by intro q; rw [if_pos q] at h; exact absurd h (by decide)
theorem zqs_iff {b : Nat → Int} {j : Nat} : zqs b j = true ↔ b j = 10 ∨ b j = 32 := decide_eq_true_iff
theorem zql_iff {b : Nat → Int} {j : Nat} : zql b j = true ↔ 97 ≤ b j ∧ b j ≤ 122 := decide_eq_true_iff
theorem zqd_iff {b : Nat → Int} {j : Nat} : zqd b j = true ↔ 48 ≤ b j ∧ b j ≤ 57 := decide_eq_true_iff
/-- the bytes of the tape -/
def zBt (b : Nat → Int) : Prop := ∀ j, j < 600 → 0 ≤ b j ∧ b j ≤ 255
/-- only the token's fields have changed -/
def zTq (σ τ : zSt) : Prop := (∀ a, a ≠ 179 → τ a = σ a) ∧ ∀ j, (j < 4 ∨ 7 < j) → τ 179 j = σ 179 j
theorem zTq.rf (σ : zSt) : zTq σ σ := ⟨fun _ _ => rfl, fun _ _ => rfl⟩
theorem zTq.put {σ τ : zSt} {j : Nat} {v : Int} (h : zTq σ τ) (hj : 4 ≤ j ∧ j ≤ 7) : zTq σ (zs τ 179 j v) := ⟨fun a ha => by rw [zs_other ha]; exact h.1 a ha, fun i hi => by rw [zs_ne (by omega)]; exact h.2 i hi⟩
theorem zTq.tr {σ τ υ : zSt} (h : zTq σ τ) (g : zTq τ υ) : zTq σ υ := ⟨fun a ha => by rw [g.1 a ha]; exact h.1 a ha, fun j hj => by rw [g.2 j hj]; exact h.2 j hj⟩
theorem c_Rd_isLetter {G : zG} {n : Nat} {σ : zSt} {j : Nat} (hn : 189 ≤ n) (hB : zBt (σ 178)) (hj : j < 600)  : Gm G y_Rd_isLetter m_Rd_isLetter 0 0 0 [vr G 179, vi (j : Int)] n SH σ (zI n SH (fun a σ' => a = (if zql (σ 178) j = true then 1 else 0) ∧ σ' = σ)) := by
  refine g_enter (L := [(0, _), (1, _)]) (by decide) rfl rfl rfl (Nat.le_of_ble_eq_true rfl) (fun X => ?_)
  have bj := hB j hj
  refine g_aload_n (i := 0) (by decide +kernel) rfl ?_
  refine g_getr f_Rd_18 (by decide +kernel) (by omega) rfl rfl ?_
  refine g_getr f_Rd_201 (by decide +kernel) (by omega) rfl rfl ?_
  refine g_iload_n (i := 1) (by decide +kernel) rfl ?_
  refine g_iald (j := j) (by decide +kernel) (by omega) rfl rfl (by omega) (by decide) ?_
  refine g_bipush (a := 97) (by decide +kernel) (by decide) ?_
  refine g_icmp_lt (off := 21) (tgt := 32) (by decide +kernel) (by decide) ⟨by omega, by omega⟩ ⟨by omega, by omega⟩ (fun h11 => ?_) (fun h11 => ?_)
  · refine g_iconst (a := 0) (by decide +kernel) ?_
    refine g_retI (by decide +kernel) rfl (Or.inr ⟨rfl, by omega⟩) ⟨by decide, by decide⟩ ?_
    exact ⟨by first | rw [if_pos (zql_iff.mpr (by omega))] | rw [if_neg (fun e => absurd (zql_iff.mp e) (by omega))], rfl⟩
  · refine g_aload_n (i := 0) (by decide +kernel) rfl ?_
    refine g_getr f_Rd_18 (by decide +kernel) (by omega) rfl rfl ?_
    refine g_getr f_Rd_201 (by decide +kernel) (by omega) rfl rfl ?_
    refine g_iload_n (i := 1) (by decide +kernel) rfl ?_
    refine g_iald (j := j) (by decide +kernel) (by omega) rfl rfl (by omega) (by decide) ?_
    refine g_bipush (a := 122) (by decide +kernel) (by decide) ?_
    refine g_icmp_gt (off := 7) (tgt := 32) (by decide +kernel) (by decide) ⟨by omega, by omega⟩ ⟨by omega, by omega⟩ (fun h25 => ?_) (fun h25 => ?_)
    · refine g_iconst (a := 0) (by decide +kernel) ?_
      refine g_retI (by decide +kernel) rfl (Or.inr ⟨rfl, by omega⟩) ⟨by decide, by decide⟩ ?_
      exact ⟨by first | rw [if_pos (zql_iff.mpr (by omega))] | rw [if_neg (fun e => absurd (zql_iff.mp e) (by omega))], rfl⟩
    · refine g_iconst (a := 1) (by decide +kernel) ?_
      refine g_goto (off := 4) (tgt := 33) (by decide +kernel) (by decide) ?_
      refine g_retI (by decide +kernel) rfl (Or.inr ⟨rfl, by omega⟩) ⟨by decide, by decide⟩ ?_
      exact ⟨by first | rw [if_pos (zql_iff.mpr (by omega))] | rw [if_neg (fun e => absurd (zql_iff.mp e) (by omega))], rfl⟩
theorem c_Rd_isDigit {G : zG} {n : Nat} {σ : zSt} {j : Nat} (hn : 189 ≤ n) (hB : zBt (σ 178)) (hj : j < 600)  : Gm G y_Rd_isDigit m_Rd_isDigit 0 0 0 [vr G 179, vi (j : Int)] n SH σ (zI n SH (fun a σ' => a = (if zqd (σ 178) j = true then 1 else 0) ∧ σ' = σ)) := by
  refine g_enter (L := [(0, _), (1, _)]) (by decide) rfl rfl rfl (Nat.le_of_ble_eq_true rfl) (fun X => ?_)
  have bj := hB j hj
  refine g_aload_n (i := 0) (by decide +kernel) rfl ?_
  refine g_getr f_Rd_18 (by decide +kernel) (by omega) rfl rfl ?_
  refine g_getr f_Rd_201 (by decide +kernel) (by omega) rfl rfl ?_
  refine g_iload_n (i := 1) (by decide +kernel) rfl ?_
  refine g_iald (j := j) (by decide +kernel) (by omega) rfl rfl (by omega) (by decide) ?_
  refine g_bipush (a := 48) (by decide +kernel) (by decide) ?_
  refine g_icmp_lt (off := 21) (tgt := 32) (by decide +kernel) (by decide) ⟨by omega, by omega⟩ ⟨by omega, by omega⟩ (fun h11 => ?_) (fun h11 => ?_)
  · refine g_iconst (a := 0) (by decide +kernel) ?_
    refine g_retI (by decide +kernel) rfl (Or.inr ⟨rfl, by omega⟩) ⟨by decide, by decide⟩ ?_
    exact ⟨by first | rw [if_pos (zqd_iff.mpr (by omega))] | rw [if_neg (fun e => absurd (zqd_iff.mp e) (by omega))], rfl⟩
  · refine g_aload_n (i := 0) (by decide +kernel) rfl ?_
    refine g_getr f_Rd_18 (by decide +kernel) (by omega) rfl rfl ?_
    refine g_getr f_Rd_201 (by decide +kernel) (by omega) rfl rfl ?_
    refine g_iload_n (i := 1) (by decide +kernel) rfl ?_
    refine g_iald (j := j) (by decide +kernel) (by omega) rfl rfl (by omega) (by decide) ?_
    refine g_bipush (a := 57) (by decide +kernel) (by decide) ?_
    refine g_icmp_gt (off := 7) (tgt := 32) (by decide +kernel) (by decide) ⟨by omega, by omega⟩ ⟨by omega, by omega⟩ (fun h25 => ?_) (fun h25 => ?_)
    · refine g_iconst (a := 0) (by decide +kernel) ?_
      refine g_retI (by decide +kernel) rfl (Or.inr ⟨rfl, by omega⟩) ⟨by decide, by decide⟩ ?_
      exact ⟨by first | rw [if_pos (zqd_iff.mpr (by omega))] | rw [if_neg (fun e => absurd (zqd_iff.mp e) (by omega))], rfl⟩
    · refine g_iconst (a := 1) (by decide +kernel) ?_
      refine g_goto (off := 4) (tgt := 33) (by decide +kernel) (by decide) ?_
      refine g_retI (by decide +kernel) rfl (Or.inr ⟨rfl, by omega⟩) ⟨by decide, by decide⟩ ?_
      exact ⟨by first | rw [if_pos (zqd_iff.mpr (by omega))] | rw [if_neg (fun e => absurd (zqd_iff.mp e) (by omega))], rfl⟩
theorem w_Rd_takeWord {G : zG} {X : zX} {n : Nat} {σ : zSt} {n0 f : Nat} (hn : 189 ≤ n) (hB : zBt (σ 178)) (hl : σ 179 3 = (n0 : Int)) (hn0 : n0 ≤ 600) (h5 : σ 179 5 = (f : Int)) (hf : f < n0)  : ∀ (m : Nat) (x : Nat) (τ : zSt), zTq σ τ → τ 179 5 = (f : Int) → τ 179 6 = (x : Int) → f ≤ x → x ≤ n0 → zrn (zql (σ 178)) n0 x = zrn (zql (σ 178)) n0 f → τ 179 7 = zfo 32 96 (σ 178) f (x - f) → τ 179 4 = 2 → n0 < x + m → Go G X m_Rd_takeWord (1, 0, 0, 0, 0) n SH τ 5 [(0, vr G 179)] [] (zV n SH (fun σ' => zTq σ σ' ∧ σ' 179 5 = (f : Int) ∧ σ' 179 4 = 2 ∧ σ' 179 6 = (zrn (zql (σ 178)) n0 f : Int) ∧ σ' 179 7 = zfo 32 96 (σ 178) f (zrn (zql (σ 178)) n0 f - f))) := by
  intro m
  induction m with
  | zero => intro x τ hT g5 g6 hx1 hx2 hz g7 g4 hm; exact absurd hm (by omega)
  | succ m ih =>
    intro x τ hT g5 g6 hx1 hx2 hz g7 g4 hm
    have eb : τ 178 = σ 178 := hT.1 178 (by decide)
    have hB1 : zBt (τ 178) := by rw [eb]; exact hB
    have g3 : τ 179 3 = (n0 : Int) := by rw [hT.2 3 (by omega)]; exact hl
    refine g_aload_n (i := 0) (by decide +kernel) rfl ?_
    refine g_geti f_Rd_34 (by decide +kernel) (by omega) rfl rfl ?_
    refine g_aload_n (i := 0) (by decide +kernel) rfl ?_
    refine g_geti f_Rd_30 (by decide +kernel) (by omega) rfl rfl ?_
    refine g_icmp_ge (off := 50) (tgt := 63) (by decide +kernel) (by decide) ⟨by omega, by omega⟩ ⟨by omega, by omega⟩ (fun h13 => ?_) (fun h13 => ?_)
    · refine g_retV (by decide +kernel) rfl ⟨by decide, by decide⟩ ?_
      have e : zrn (zql (σ 178)) n0 f = x := by
        rw [← hz]
        refine zrn_e ?_
        first
        | exact Or.inl (by omega)
        | (refine Or.inr ?_
           rw [← eb]
           exact Bool.eq_false_iff.mpr hL)
      exact ⟨hT, g5, g4, by rw [e]; exact g6, by rw [e]; exact g7⟩
    · have hb := hB1 x (by omega)
      refine g_aload_n (i := 0) (by decide +kernel) rfl ?_
      refine g_aload_n (i := 0) (by decide +kernel) rfl ?_
      refine g_geti f_Rd_34 (by decide +kernel) (by omega) rfl rfl ?_
      rw [g6]
      refine g_cVI (st := _) (c_Rd_isLetter (j := x) hn hB1 (by omega)) k_Rd_isLetter l_Rd_206 (by decide +kernel) (by omega) rfl rfl rfl rfl (Nat.le_of_ble_eq_true rfl) (by decide) ⟨by decide, by decide⟩ ?_
      rintro a9 σ9 ⟨ea9, hσ9⟩
      obtain rfl := hσ9.symm
      subst ea9
      refine g_if_eq (off := 39) (tgt := 63) (by decide +kernel) (by decide) ⟨by omega, by omega⟩ (fun h24 => ?_) (fun h24 => ?_)
      · have hL : ¬ zql (τ 178) x = true := zit0 h24
        refine g_retV (by decide +kernel) rfl ⟨by decide, by decide⟩ ?_
        have e : zrn (zql (σ 178)) n0 f = x := by
          rw [← hz]
          refine zrn_e ?_
          first
          | exact Or.inl (by omega)
          | (refine Or.inr ?_
             rw [← eb]
             exact Bool.eq_false_iff.mpr hL)
        exact ⟨hT, g5, g4, by rw [e]; exact g6, by rw [e]; exact g7⟩
      · have hL : zql (τ 178) x = true := zit1 h24
        refine g_aload_n (i := 0) (by decide +kernel) rfl ?_
        refine g_aload_n (i := 0) (by decide +kernel) rfl ?_
        refine g_getl f_Rd_117 (by decide +kernel) (by omega) rfl rfl ?_
        refine g_aload_n (i := 0) (by decide +kernel) rfl ?_
        refine g_getr f_Rd_18 (by decide +kernel) (by omega) rfl rfl ?_
        refine g_getr f_Rd_201 (by decide +kernel) (by omega) rfl rfl ?_
        refine g_aload_n (i := 0) (by decide +kernel) rfl ?_
        refine g_geti f_Rd_34 (by decide +kernel) (by omega) rfl rfl ?_
        refine g_iald (j := x) (by decide +kernel) (by omega) rfl (by omega) (by omega) (by decide) ?_
        refine g_cSL (st := _) (c_Rd_withLetter ⟨by omega, by omega⟩) k_Rd_withLetter l_Rd_195 (by decide +kernel) rfl rfl (Nat.le_of_ble_eq_true rfl) (by decide) ⟨by decide, by decide⟩ ?_
        rintro a8 σ8 ⟨ea8, hσ8⟩
        obtain rfl := hσ8.symm
        subst ea8
        refine g_putl f_Rd_117 (by decide +kernel) (by omega) rfl rfl ?_
        refine g_aload_n (i := 0) (by decide +kernel) rfl ?_
        refine g_dup (by decide +kernel) rfl ?_
        refine g_geti f_Rd_34 (by decide +kernel) (by omega) rfl rfl ?_
        refine g_iconst (a := 1) (by decide +kernel) ?_
        refine g_iadd (by decide +kernel) ?_
        refine g_puti f_Rd_34 (by decide +kernel) (by omega) rfl rfl ?_
        refine g_goto (off := -55) (tgt := 5) (by decide +kernel) (by decide) ?_
        have eb2 : zfo 32 96 (σ 178) f (x + 1 - f) = zfo 32 96 (σ 178) f (x - f) * 32 + (σ 178 x - 96) := by
          rw [show x + 1 - f = (x - f) + 1 by omega]
          show zfo 32 96 (σ 178) f (x - f) * 32 + (σ 178 (f + (x - f)) - 96) = _
          rw [show f + (x - f) = x by omega]
        have hq : zql (σ 178) x = true := by rw [← eb]; exact hL
        refine ih (x + 1) _ ((hT.put (by decide)).put (by decide)) (by rw [zs_ne (by decide), zs_ne (by decide)]; exact g5) (by rw [zs_eq, zs_ne (by decide), g6]; push_cast; rfl) (by omega) (by omega) (by rw [← zrn_s (by omega) hq]; exact hz) ?_ (by rw [zs_ne (by decide), zs_ne (by decide)]; exact g4) (by omega)
        rw [zs_ne (by decide), zs_eq, eb2, g7, eb]
        omega
theorem c_Rd_takeWord {G : zG} {n : Nat} {σ : zSt} {n0 f : Nat} (hn : 189 ≤ n) (hB : zBt (σ 178)) (hl : σ 179 3 = (n0 : Int)) (hn0 : n0 ≤ 600) (h5 : σ 179 5 = (f : Int)) (hf : f < n0) (h6 : σ 179 6 = (f : Int)) (h7 : σ 179 7 = 0) : Gm G y_Rd_takeWord m_Rd_takeWord 1 0 0 [vr G 179] n SH σ (zV n SH (fun σ' => zTq σ σ' ∧ σ' 179 5 = (f : Int) ∧ σ' 179 4 = 2 ∧ σ' 179 6 = (zrn (zql (σ 178)) n0 f : Int) ∧ σ' 179 7 = zfo 32 96 (σ 178) f (zrn (zql (σ 178)) n0 f - f))) := by
  refine g_enter (L := [(0, _)]) (by decide) rfl rfl rfl (Nat.le_of_ble_eq_true rfl) (fun X => ?_)
  refine g_aload_n (i := 0) (by decide +kernel) rfl ?_
  refine g_iconst (a := 2) (by decide +kernel) ?_
  refine g_puti f_Rd_61 (by decide +kernel) (by omega) rfl rfl ?_
  exact w_Rd_takeWord hn hB hl hn0 h5 hf (n0 + 1) f _ ((zTq.rf σ).put (by decide)) (by rw [zs_ne (by decide)]; exact h5) (by rw [zs_ne (by decide)]; exact h6) (Nat.le_refl _) (by omega) rfl (by rw [zs_ne (by decide), Nat.sub_self]; exact h7) (zs_eq _ _ _ _) (by omega)
theorem w_Rd_takeNumber {G : zG} {X : zX} {n : Nat} {σ : zSt} {n0 f : Nat} (hn : 189 ≤ n) (hB : zBt (σ 178)) (hl : σ 179 3 = (n0 : Int)) (hn0 : n0 ≤ 600) (h5 : σ 179 5 = (f : Int)) (hf : f < n0)  : ∀ (m : Nat) (x : Nat) (τ : zSt), zTq σ τ → τ 179 5 = (f : Int) → τ 179 6 = (x : Int) → f ≤ x → x ≤ n0 → zrn (zqd (σ 178)) n0 x = zrn (zqd (σ 178)) n0 f → τ 179 7 = zfo 10 48 (σ 178) f (x - f) → n0 < x + m → Go G X m_Rd_takeNumber (1, 0, 0, 0, 0) n SH τ 0 [(0, vr G 179)] [] (zV n SH (fun σ' => zTq σ σ' ∧ σ' 179 5 = (f : Int) ∧ σ' 179 4 = (if zrn (zqd (σ 178)) n0 f - f > 4 then 1 else 3) ∧ σ' 179 6 = (zrn (zqd (σ 178)) n0 f : Int) ∧ σ' 179 7 = zfo 10 48 (σ 178) f (zrn (zqd (σ 178)) n0 f - f))) := by
  intro m
  induction m with
  | zero => intro x τ hT g5 g6 hx1 hx2 hz g7 hm; exact absurd hm (by omega)
  | succ m ih =>
    intro x τ hT g5 g6 hx1 hx2 hz g7 hm
    have eb : τ 178 = σ 178 := hT.1 178 (by decide)
    have hB1 : zBt (τ 178) := by rw [eb]; exact hB
    have g3 : τ 179 3 = (n0 : Int) := by rw [hT.2 3 (by omega)]; exact hl
    refine g_aload_n (i := 0) (by decide +kernel) rfl ?_
    refine g_geti f_Rd_34 (by decide +kernel) (by omega) rfl rfl ?_
    refine g_aload_n (i := 0) (by decide +kernel) rfl ?_
    refine g_geti f_Rd_30 (by decide +kernel) (by omega) rfl rfl ?_
    refine g_icmp_ge (off := 57) (tgt := 65) (by decide +kernel) (by decide) ⟨by omega, by omega⟩ ⟨by omega, by omega⟩ (fun h8 => ?_) (fun h8 => ?_)
    · refine g_aload_n (i := 0) (by decide +kernel) rfl ?_
      refine g_aload_n (i := 0) (by decide +kernel) rfl ?_
      refine g_geti f_Rd_34 (by decide +kernel) (by omega) rfl rfl ?_
      refine g_aload_n (i := 0) (by decide +kernel) rfl ?_
      refine g_geti f_Rd_182 (by decide +kernel) (by omega) rfl rfl ?_
      refine g_isub (by decide +kernel) ?_
      refine g_iconst (a := 4) (by decide +kernel) ?_
      refine g_icmp_le (off := 7) (tgt := 83) (by decide +kernel) (by decide) ⟨by omega, by omega⟩ ⟨by omega, by omega⟩ (fun h76 => ?_) (fun h76 => ?_)
      · refine g_iconst (a := 3) (by decide +kernel) ?_
        refine g_puti f_Rd_61 (by decide +kernel) (by omega) rfl rfl ?_
        refine g_retV (by decide +kernel) rfl ⟨by decide, by decide⟩ ?_
        have e : zrn (zqd (σ 178)) n0 f = x := by
          rw [← hz]
          refine zrn_e ?_
          first
          | exact Or.inl (by omega)
          | (refine Or.inr ?_
             rw [← eb]
             exact Bool.eq_false_iff.mpr hL)
        exact ⟨hT.put (by decide), by rw [zs_ne (by decide)]; exact g5, by rw [zs_eq, e]; first | rw [if_pos (by omega)] | rw [if_neg (by omega)], by rw [e, zs_ne (by decide)]; exact g6, by rw [e, zs_ne (by decide)]; exact g7⟩
      · refine g_iconst (a := 1) (by decide +kernel) ?_
        refine g_goto (off := 4) (tgt := 84) (by decide +kernel) (by decide) ?_
        refine g_puti f_Rd_61 (by decide +kernel) (by omega) rfl rfl ?_
        refine g_retV (by decide +kernel) rfl ⟨by decide, by decide⟩ ?_
        have e : zrn (zqd (σ 178)) n0 f = x := by
          rw [← hz]
          refine zrn_e ?_
          first
          | exact Or.inl (by omega)
          | (refine Or.inr ?_
             rw [← eb]
             exact Bool.eq_false_iff.mpr hL)
        exact ⟨hT.put (by decide), by rw [zs_ne (by decide)]; exact g5, by rw [zs_eq, e]; first | rw [if_pos (by omega)] | rw [if_neg (by omega)], by rw [e, zs_ne (by decide)]; exact g6, by rw [e, zs_ne (by decide)]; exact g7⟩
    · have hb := hB1 x (by omega)
      refine g_aload_n (i := 0) (by decide +kernel) rfl ?_
      refine g_aload_n (i := 0) (by decide +kernel) rfl ?_
      refine g_geti f_Rd_34 (by decide +kernel) (by omega) rfl rfl ?_
      rw [g6]
      refine g_cVI (st := _) (c_Rd_isDigit (j := x) hn hB1 (by omega)) k_Rd_isDigit l_Rd_212 (by decide +kernel) (by omega) rfl rfl rfl rfl (Nat.le_of_ble_eq_true rfl) (by decide) ⟨by decide, by decide⟩ ?_
      rintro a9 σ9 ⟨ea9, hσ9⟩
      obtain rfl := hσ9.symm
      subst ea9
      refine g_if_eq (off := 46) (tgt := 65) (by decide +kernel) (by decide) ⟨by omega, by omega⟩ (fun h19 => ?_) (fun h19 => ?_)
      · have hL : ¬ zqd (τ 178) x = true := zit0 h19
        refine g_aload_n (i := 0) (by decide +kernel) rfl ?_
        refine g_aload_n (i := 0) (by decide +kernel) rfl ?_
        refine g_geti f_Rd_34 (by decide +kernel) (by omega) rfl rfl ?_
        refine g_aload_n (i := 0) (by decide +kernel) rfl ?_
        refine g_geti f_Rd_182 (by decide +kernel) (by omega) rfl rfl ?_
        refine g_isub (by decide +kernel) ?_
        refine g_iconst (a := 4) (by decide +kernel) ?_
        refine g_icmp_le (off := 7) (tgt := 83) (by decide +kernel) (by decide) ⟨by omega, by omega⟩ ⟨by omega, by omega⟩ (fun h76 => ?_) (fun h76 => ?_)
        · refine g_iconst (a := 3) (by decide +kernel) ?_
          refine g_puti f_Rd_61 (by decide +kernel) (by omega) rfl rfl ?_
          refine g_retV (by decide +kernel) rfl ⟨by decide, by decide⟩ ?_
          have e : zrn (zqd (σ 178)) n0 f = x := by
            rw [← hz]
            refine zrn_e ?_
            first
            | exact Or.inl (by omega)
            | (refine Or.inr ?_
               rw [← eb]
               exact Bool.eq_false_iff.mpr hL)
          exact ⟨hT.put (by decide), by rw [zs_ne (by decide)]; exact g5, by rw [zs_eq, e]; first | rw [if_pos (by omega)] | rw [if_neg (by omega)], by rw [e, zs_ne (by decide)]; exact g6, by rw [e, zs_ne (by decide)]; exact g7⟩
        · refine g_iconst (a := 1) (by decide +kernel) ?_
          refine g_goto (off := 4) (tgt := 84) (by decide +kernel) (by decide) ?_
          refine g_puti f_Rd_61 (by decide +kernel) (by omega) rfl rfl ?_
          refine g_retV (by decide +kernel) rfl ⟨by decide, by decide⟩ ?_
          have e : zrn (zqd (σ 178)) n0 f = x := by
            rw [← hz]
            refine zrn_e ?_
            first
            | exact Or.inl (by omega)
            | (refine Or.inr ?_
               rw [← eb]
               exact Bool.eq_false_iff.mpr hL)
          exact ⟨hT.put (by decide), by rw [zs_ne (by decide)]; exact g5, by rw [zs_eq, e]; first | rw [if_pos (by omega)] | rw [if_neg (by omega)], by rw [e, zs_ne (by decide)]; exact g6, by rw [e, zs_ne (by decide)]; exact g7⟩
      · have hL : zqd (τ 178) x = true := zit1 h19
        refine g_aload_n (i := 0) (by decide +kernel) rfl ?_
        refine g_aload_n (i := 0) (by decide +kernel) rfl ?_
        refine g_getl f_Rd_117 (by decide +kernel) (by omega) rfl rfl ?_
        refine g_ldc2 (x := 221) (a := 10) (by decide +kernel) c_Rd_221 (by decide) ?_
        refine g_lmul (by decide +kernel) ?_
        refine g_aload_n (i := 0) (by decide +kernel) rfl ?_
        refine g_getr f_Rd_18 (by decide +kernel) (by omega) rfl rfl ?_
        refine g_getr f_Rd_201 (by decide +kernel) (by omega) rfl rfl ?_
        refine g_aload_n (i := 0) (by decide +kernel) rfl ?_
        refine g_geti f_Rd_34 (by decide +kernel) (by omega) rfl rfl ?_
        refine g_iald (j := x) (by decide +kernel) (by omega) rfl (by omega) (by omega) (by decide) ?_
        refine g_i2l (by decide +kernel) ⟨by omega, by omega⟩ ?_
        refine g_ladd (by decide +kernel) ?_
        refine g_ldc2 (x := 223) (a := 48) (by decide +kernel) c_Rd_223 (by decide) ?_
        refine g_lsub (by decide +kernel) ?_
        refine g_putl f_Rd_117 (by decide +kernel) (by omega) rfl rfl ?_
        refine g_aload_n (i := 0) (by decide +kernel) rfl ?_
        refine g_dup (by decide +kernel) rfl ?_
        refine g_geti f_Rd_34 (by decide +kernel) (by omega) rfl rfl ?_
        refine g_iconst (a := 1) (by decide +kernel) ?_
        refine g_iadd (by decide +kernel) ?_
        refine g_puti f_Rd_34 (by decide +kernel) (by omega) rfl rfl ?_
        refine g_goto (off := -62) (tgt := 0) (by decide +kernel) (by decide) ?_
        have eb2 : zfo 10 48 (σ 178) f (x + 1 - f) = zfo 10 48 (σ 178) f (x - f) * 10 + (σ 178 x - 48) := by
          rw [show x + 1 - f = (x - f) + 1 by omega]
          show zfo 10 48 (σ 178) f (x - f) * 10 + (σ 178 (f + (x - f)) - 48) = _
          rw [show f + (x - f) = x by omega]
        have hq : zqd (σ 178) x = true := by rw [← eb]; exact hL
        refine ih (x + 1) _ ((hT.put (by decide)).put (by decide)) (by rw [zs_ne (by decide), zs_ne (by decide)]; exact g5) (by rw [zs_eq, zs_ne (by decide), g6]; push_cast; rfl) (by omega) (by omega) (by rw [← zrn_s (by omega) hq]; exact hz) ?_ (by omega)
        rw [zs_ne (by decide), zs_eq, eb2, g7, eb]
        omega
theorem c_Rd_takeNumber {G : zG} {n : Nat} {σ : zSt} {n0 f : Nat} (hn : 189 ≤ n) (hB : zBt (σ 178)) (hl : σ 179 3 = (n0 : Int)) (hn0 : n0 ≤ 600) (h5 : σ 179 5 = (f : Int)) (hf : f < n0) (h6 : σ 179 6 = (f : Int)) (h7 : σ 179 7 = 0) : Gm G y_Rd_takeNumber m_Rd_takeNumber 1 0 0 [vr G 179] n SH σ (zV n SH (fun σ' => zTq σ σ' ∧ σ' 179 5 = (f : Int) ∧ σ' 179 4 = (if zrn (zqd (σ 178)) n0 f - f > 4 then 1 else 3) ∧ σ' 179 6 = (zrn (zqd (σ 178)) n0 f : Int) ∧ σ' 179 7 = zfo 10 48 (σ 178) f (zrn (zqd (σ 178)) n0 f - f))) := by
  refine g_enter (L := [(0, _)]) (by decide) rfl rfl rfl (Nat.le_of_ble_eq_true rfl) (fun X => ?_)
  exact w_Rd_takeNumber hn hB hl hn0 h5 hf (n0 + 1) f _ (zTq.rf σ) h5 h6 (Nat.le_refl _) (by omega) rfl (by rw [Nat.sub_self]; exact h7) (by omega)
theorem c_Rd_takeSign {G : zG} {n : Nat} {σ : zSt} {n0 f : Nat} (hn : 189 ≤ n) (hB : zBt (σ 178)) (hl : σ 179 3 = (n0 : Int)) (hn0 : n0 ≤ 600) (h5 : σ 179 5 = (f : Int)) (hf : f < n0)  : Gm G y_Rd_takeSign m_Rd_takeSign 0 0 0 [vr G 179] n SH σ (zV n SH (fun σ' => zTq σ σ' ∧ σ' 179 5 = (f : Int) ∧ σ' 179 4 = (if σ 178 f = 40 ∨ σ 178 f = 41 ∨ σ 178 f = 59 then 4 else 1) ∧ σ' 179 6 = ((f + 1 : Nat) : Int) ∧ σ' 179 7 = σ 178 f)) := by
  refine g_enter (L := [(0, _)]) (by decide) rfl rfl rfl (Nat.le_of_ble_eq_true rfl) (fun X => ?_)
  have bj := hB f (by omega)
  refine g_aload_n (i := 0) (by decide +kernel) rfl ?_
  refine g_getr f_Rd_18 (by decide +kernel) (by omega) rfl rfl ?_
  refine g_getr f_Rd_201 (by decide +kernel) (by omega) rfl rfl ?_
  refine g_aload_n (i := 0) (by decide +kernel) rfl ?_
  refine g_geti f_Rd_182 (by decide +kernel) (by omega) rfl rfl ?_
  refine g_iald (j := f) (by decide +kernel) (by omega) rfl (by omega) (by omega) (by decide) ?_
  refine g_istore_n (i := 1) (L' := [(0, _), (1, _)]) (by decide +kernel) rfl rfl ?_
  refine g_aload_n (i := 0) (by decide +kernel) rfl ?_
  refine g_iload_n (i := 1) (by decide +kernel) rfl ?_
  refine g_bipush (a := 40) (by decide +kernel) (by decide) ?_
  refine g_icmp_eq (off := 15) (tgt := 32) (by decide +kernel) (by decide) ⟨by omega, by omega⟩ ⟨by omega, by omega⟩ (fun h17 => ?_) (fun h17 => ?_)
  · refine g_iconst (a := 4) (by decide +kernel) ?_
    refine g_goto (off := 4) (tgt := 37) (by decide +kernel) (by decide) ?_
    refine g_puti f_Rd_61 (by decide +kernel) (by omega) rfl rfl ?_
    refine g_aload_n (i := 0) (by decide +kernel) rfl ?_
    refine g_iload_n (i := 1) (by decide +kernel) rfl ?_
    refine g_i2l (by decide +kernel) ⟨by omega, by omega⟩ ?_
    refine g_putl f_Rd_117 (by decide +kernel) (by omega) rfl rfl ?_
    refine g_aload_n (i := 0) (by decide +kernel) rfl ?_
    refine g_aload_n (i := 0) (by decide +kernel) rfl ?_
    refine g_geti f_Rd_182 (by decide +kernel) (by omega) rfl rfl ?_
    refine g_iconst (a := 1) (by decide +kernel) ?_
    refine g_iadd (by decide +kernel) ?_
    refine g_puti f_Rd_34 (by decide +kernel) (by omega) rfl rfl ?_
    refine g_retV (by decide +kernel) rfl ⟨by decide, by decide⟩ ?_
    refine ⟨((zTq.rf σ).put (by decide)).put (by decide) |>.put (by decide), by rw [zs_ne (by decide), zs_ne (by decide), zs_ne (by decide)]; exact h5, ?_, by rw [zs_eq, zs_ne (by decide), zs_ne (by decide), h5]; push_cast; omega, by rw [zs_ne (by decide), zs_eq]⟩
    rw [zs_ne (by decide), zs_ne (by decide), zs_eq]
    first | rw [if_pos (by omega)] | rw [if_neg (by omega)]
  · refine g_iload_n (i := 1) (by decide +kernel) rfl ?_
    refine g_bipush (a := 41) (by decide +kernel) (by decide) ?_
    refine g_icmp_eq (off := 9) (tgt := 32) (by decide +kernel) (by decide) ⟨by omega, by omega⟩ ⟨by omega, by omega⟩ (fun h23 => ?_) (fun h23 => ?_)
    · refine g_iconst (a := 4) (by decide +kernel) ?_
      refine g_goto (off := 4) (tgt := 37) (by decide +kernel) (by decide) ?_
      refine g_puti f_Rd_61 (by decide +kernel) (by omega) rfl rfl ?_
      refine g_aload_n (i := 0) (by decide +kernel) rfl ?_
      refine g_iload_n (i := 1) (by decide +kernel) rfl ?_
      refine g_i2l (by decide +kernel) ⟨by omega, by omega⟩ ?_
      refine g_putl f_Rd_117 (by decide +kernel) (by omega) rfl rfl ?_
      refine g_aload_n (i := 0) (by decide +kernel) rfl ?_
      refine g_aload_n (i := 0) (by decide +kernel) rfl ?_
      refine g_geti f_Rd_182 (by decide +kernel) (by omega) rfl rfl ?_
      refine g_iconst (a := 1) (by decide +kernel) ?_
      refine g_iadd (by decide +kernel) ?_
      refine g_puti f_Rd_34 (by decide +kernel) (by omega) rfl rfl ?_
      refine g_retV (by decide +kernel) rfl ⟨by decide, by decide⟩ ?_
      refine ⟨((zTq.rf σ).put (by decide)).put (by decide) |>.put (by decide), by rw [zs_ne (by decide), zs_ne (by decide), zs_ne (by decide)]; exact h5, ?_, by rw [zs_eq, zs_ne (by decide), zs_ne (by decide), h5]; push_cast; omega, by rw [zs_ne (by decide), zs_eq]⟩
      rw [zs_ne (by decide), zs_ne (by decide), zs_eq]
      first | rw [if_pos (by omega)] | rw [if_neg (by omega)]
    · refine g_iload_n (i := 1) (by decide +kernel) rfl ?_
      refine g_bipush (a := 59) (by decide +kernel) (by decide) ?_
      refine g_icmp_ne (off := 7) (tgt := 36) (by decide +kernel) (by decide) ⟨by omega, by omega⟩ ⟨by omega, by omega⟩ (fun h29 => ?_) (fun h29 => ?_)
      · refine g_iconst (a := 1) (by decide +kernel) ?_
        refine g_puti f_Rd_61 (by decide +kernel) (by omega) rfl rfl ?_
        refine g_aload_n (i := 0) (by decide +kernel) rfl ?_
        refine g_iload_n (i := 1) (by decide +kernel) rfl ?_
        refine g_i2l (by decide +kernel) ⟨by omega, by omega⟩ ?_
        refine g_putl f_Rd_117 (by decide +kernel) (by omega) rfl rfl ?_
        refine g_aload_n (i := 0) (by decide +kernel) rfl ?_
        refine g_aload_n (i := 0) (by decide +kernel) rfl ?_
        refine g_geti f_Rd_182 (by decide +kernel) (by omega) rfl rfl ?_
        refine g_iconst (a := 1) (by decide +kernel) ?_
        refine g_iadd (by decide +kernel) ?_
        refine g_puti f_Rd_34 (by decide +kernel) (by omega) rfl rfl ?_
        refine g_retV (by decide +kernel) rfl ⟨by decide, by decide⟩ ?_
        refine ⟨((zTq.rf σ).put (by decide)).put (by decide) |>.put (by decide), by rw [zs_ne (by decide), zs_ne (by decide), zs_ne (by decide)]; exact h5, ?_, by rw [zs_eq, zs_ne (by decide), zs_ne (by decide), h5]; push_cast; omega, by rw [zs_ne (by decide), zs_eq]⟩
        rw [zs_ne (by decide), zs_ne (by decide), zs_eq]
        first | rw [if_pos (by omega)] | rw [if_neg (by omega)]
      · refine g_iconst (a := 4) (by decide +kernel) ?_
        refine g_goto (off := 4) (tgt := 37) (by decide +kernel) (by decide) ?_
        refine g_puti f_Rd_61 (by decide +kernel) (by omega) rfl rfl ?_
        refine g_aload_n (i := 0) (by decide +kernel) rfl ?_
        refine g_iload_n (i := 1) (by decide +kernel) rfl ?_
        refine g_i2l (by decide +kernel) ⟨by omega, by omega⟩ ?_
        refine g_putl f_Rd_117 (by decide +kernel) (by omega) rfl rfl ?_
        refine g_aload_n (i := 0) (by decide +kernel) rfl ?_
        refine g_aload_n (i := 0) (by decide +kernel) rfl ?_
        refine g_geti f_Rd_182 (by decide +kernel) (by omega) rfl rfl ?_
        refine g_iconst (a := 1) (by decide +kernel) ?_
        refine g_iadd (by decide +kernel) ?_
        refine g_puti f_Rd_34 (by decide +kernel) (by omega) rfl rfl ?_
        refine g_retV (by decide +kernel) rfl ⟨by decide, by decide⟩ ?_
        refine ⟨((zTq.rf σ).put (by decide)).put (by decide) |>.put (by decide), by rw [zs_ne (by decide), zs_ne (by decide), zs_ne (by decide)]; exact h5, ?_, by rw [zs_eq, zs_ne (by decide), zs_ne (by decide), h5]; push_cast; omega, by rw [zs_ne (by decide), zs_eq]⟩
        rw [zs_ne (by decide), zs_ne (by decide), zs_eq]
        first | rw [if_pos (by omega)] | rw [if_neg (by omega)]
/-- a token is taken: the one at f, the first place from p on where no space is -/
def zTk (σ σ' : zSt) (n0 p : Nat) : Prop := zTq σ σ' ∧ σ' 179 5 = (zrn (zqs (σ 178)) n0 p : Int) ∧ σ' 179 4 = zTt (σ 178) n0 (zrn (zqs (σ 178)) n0 p) ∧ σ' 179 6 = (zTb (σ 178) n0 (zrn (zqs (σ 178)) n0 p) : Int) ∧ σ' 179 7 = zTs (σ 178) n0 (zrn (zqs (σ 178)) n0 p)
theorem w_Rd_takeToken {G : zG} {X : zX} {n : Nat} {σ : zSt} {n0 p : Nat} (hn : 189 ≤ n) (hB : zBt (σ 178)) (hl : σ 179 3 = (n0 : Int)) (hn0 : n0 ≤ 600) (hp : p ≤ n0)  : ∀ (m : Nat) (x : Nat) (τ : zSt), zTq σ τ → τ 179 5 = (x : Int) → p ≤ x → x ≤ n0 → zrn (zqs (σ 178)) n0 x = zrn (zqs (σ 178)) n0 p → n0 < x + m → Go G X m_Rd_takeToken (2, 0, 0, 0, 0) n SH τ 8 [(0, vr G 179)] [] (zV n SH (fun σ' => zTk σ σ' n0 p)) := by
  intro m
  induction m with
  | zero => intro x τ hT g5 hx1 hx2 hz hm; exact absurd hm (by omega)
  | succ m ih =>
    intro x τ hT g5 hx1 hx2 hz hm
    have eb : τ 178 = σ 178 := hT.1 178 (by decide)
    have hB1 : zBt (τ 178) := by rw [eb]; exact hB
    have g3 : τ 179 3 = (n0 : Int) := by rw [hT.2 3 (by omega)]; exact hl
    have J66 : zrn (zqs (σ 178)) n0 p = x → Go G X m_Rd_takeToken (2, 0, 0, 0, 0) n SH τ 66 [(0, vr G 179)] [] (zV n SH (fun σ' => zTk σ σ' n0 p)) := by
      intro ez
      refine g_aload_n (i := 0) (by decide +kernel) rfl ?_
      refine g_aload_n (i := 0) (by decide +kernel) rfl ?_
      refine g_geti f_Rd_182 (by decide +kernel) (by omega) rfl rfl ?_
      refine g_puti f_Rd_34 (by decide +kernel) (by omega) rfl rfl ?_
      refine g_aload_n (i := 0) (by decide +kernel) rfl ?_
      refine g_lconst (c := 0) (a := 0) (by decide +kernel) (by decide) ?_
      refine g_putl f_Rd_117 (by decide +kernel) (by omega) rfl rfl ?_
      obtain ⟨υ, eυ⟩ : ∃ υ, υ = zs (zs τ 179 6 (τ 179 5)) 179 7 0 := ⟨_, rfl⟩
      rw [← eυ]
      have hU : zTq σ υ := by rw [eυ]; exact (hT.put (by decide)).put (by decide)
      have eb3 : υ 178 = σ 178 := hU.1 178 (by decide)
      have hB1 : zBt (υ 178) := by rw [eb3]; exact hB
      have hB2 := hB1
      have u3 : υ 179 3 = (n0 : Int) := by rw [hU.2 3 (by omega)]; exact hl
      have u5 : υ 179 5 = (x : Int) := by rw [eυ, zs_ne (by decide), zs_ne (by decide)]; exact g5
      have u6 : υ 179 6 = (x : Int) := by rw [eυ, zs_ne (by decide), zs_eq]; exact g5
      have u7 : υ 179 7 = 0 := by rw [eυ, zs_eq]
      refine g_aload_n (i := 0) (by decide +kernel) rfl ?_
      refine g_geti f_Rd_182 (by decide +kernel) (by omega) rfl rfl ?_
      refine g_aload_n (i := 0) (by decide +kernel) rfl ?_
      refine g_geti f_Rd_30 (by decide +kernel) (by omega) rfl rfl ?_
      refine g_icmp_lt (off := 11) (tgt := 98) (by decide +kernel) (by decide) ⟨by omega, by omega⟩ ⟨by omega, by omega⟩ (fun h87 => ?_) (fun h87 => ?_)
      · refine g_aload_n (i := 0) (by decide +kernel) rfl ?_
        refine g_aload_n (i := 0) (by decide +kernel) rfl ?_
        refine g_geti f_Rd_182 (by decide +kernel) (by omega) rfl rfl ?_
        rw [u5]
        refine g_cVI (st := _) (c_Rd_isLetter (j := x) hn hB1 (by omega)) k_Rd_isLetter l_Rd_206 (by decide +kernel) (by omega) rfl rfl rfl rfl (Nat.le_of_ble_eq_true rfl) (by decide) ⟨by decide, by decide⟩ ?_
        rintro a9 σ9 ⟨ea9, hσ9⟩
        obtain rfl := hσ9.symm
        subst ea9
        refine g_if_eq (off := 10) (tgt := 116) (by decide +kernel) (by decide) ⟨by omega, by omega⟩ (fun h106 => ?_) (fun h106 => ?_)
        · refine g_aload_n (i := 0) (by decide +kernel) rfl ?_
          refine g_aload_n (i := 0) (by decide +kernel) rfl ?_
          refine g_geti f_Rd_182 (by decide +kernel) (by omega) rfl rfl ?_
          rw [u5]
          refine g_cVI (st := _) (c_Rd_isDigit (j := x) hn hB1 (by omega)) k_Rd_isDigit l_Rd_212 (by decide +kernel) (by omega) rfl rfl rfl rfl (Nat.le_of_ble_eq_true rfl) (by decide) ⟨by decide, by decide⟩ ?_
          rintro a9 σ9 ⟨ea9, hσ9⟩
          obtain rfl := hσ9.symm
          subst ea9
          refine g_if_eq (off := 10) (tgt := 134) (by decide +kernel) (by decide) ⟨by omega, by omega⟩ (fun h124 => ?_) (fun h124 => ?_)
          · refine g_aload_n (i := 0) (by decide +kernel) rfl ?_
            refine g_cVV (st := _) (c_Rd_takeSign (n0 := n0) (f := x) hn hB2 u3 hn0 u5 (by omega)) k_Rd_takeSign l_Rd_218 (by decide +kernel) (by omega) rfl rfl rfl rfl (Nat.le_of_ble_eq_true rfl) (by decide) ⟨by decide, by decide⟩ ?_
            rintro υ9 ⟨k1, k2, k3, k4, k5⟩
            rw [eb3] at k3 k5
            refine g_retV (by decide +kernel) rfl ⟨by decide, by decide⟩ ?_
            show zTk _ _ _ _
            unfold zTk zTt zTb zTs
            rw [ez]
            first
              | (simp only [if_pos (show n0 ≤ x by omega)]
                 exact ⟨hU.put (by decide), by rw [zs_ne (by decide)]; exact u5, zs_eq _ _ _ _, by rw [zs_ne (by decide)]; exact u6, by rw [zs_ne (by decide)]; exact u7⟩)
              | (have hL : zql (σ 178) x = true := by
                   rw [← eb3]; exact zit1 h106
                 simp only [if_neg (show ¬ n0 ≤ x by omega), if_pos hL]
                 exact ⟨hU.tr k1, k2, k3, k4, k5⟩)
              | (have hL : ¬ zql (σ 178) x = true := by
                   rw [← eb3]; exact zit0 h106
                 have hD : zqd (σ 178) x = true := by
                   rw [← eb3]; exact zit1 h124
                 simp only [if_neg (show ¬ n0 ≤ x by omega), if_neg hL, if_pos hD]
                 exact ⟨hU.tr k1, k2, k3, k4, k5⟩)
              | (have hL : ¬ zql (σ 178) x = true := by
                   rw [← eb3]; exact zit0 h106
                 have hD : ¬ zqd (σ 178) x = true := by
                   rw [← eb3]; exact zit0 h124
                 simp only [if_neg (show ¬ n0 ≤ x by omega), if_neg hL, if_neg hD]
                 exact ⟨hU.tr k1, k2, k3, k4, k5⟩)
          · refine g_aload_n (i := 0) (by decide +kernel) rfl ?_
            refine g_cVV (st := _) (c_Rd_takeNumber (n0 := n0) (f := x) hn hB2 u3 hn0 u5 (by omega) u6 u7) k_Rd_takeNumber l_Rd_215 (by decide +kernel) (by omega) rfl rfl rfl rfl (Nat.le_of_ble_eq_true rfl) (by decide) ⟨by decide, by decide⟩ ?_
            rintro υ9 ⟨k1, k2, k3, k4, k5⟩
            rw [eb3] at k3 k4 k5
            refine g_goto (off := 7) (tgt := 138) (by decide +kernel) (by decide) ?_
            refine g_retV (by decide +kernel) rfl ⟨by decide, by decide⟩ ?_
            show zTk _ _ _ _
            unfold zTk zTt zTb zTs
            rw [ez]
            first
              | (simp only [if_pos (show n0 ≤ x by omega)]
                 exact ⟨hU.put (by decide), by rw [zs_ne (by decide)]; exact u5, zs_eq _ _ _ _, by rw [zs_ne (by decide)]; exact u6, by rw [zs_ne (by decide)]; exact u7⟩)
              | (have hL : zql (σ 178) x = true := by
                   rw [← eb3]; exact zit1 h106
                 simp only [if_neg (show ¬ n0 ≤ x by omega), if_pos hL]
                 exact ⟨hU.tr k1, k2, k3, k4, k5⟩)
              | (have hL : ¬ zql (σ 178) x = true := by
                   rw [← eb3]; exact zit0 h106
                 have hD : zqd (σ 178) x = true := by
                   rw [← eb3]; exact zit1 h124
                 simp only [if_neg (show ¬ n0 ≤ x by omega), if_neg hL, if_pos hD]
                 exact ⟨hU.tr k1, k2, k3, k4, k5⟩)
              | (have hL : ¬ zql (σ 178) x = true := by
                   rw [← eb3]; exact zit0 h106
                 have hD : ¬ zqd (σ 178) x = true := by
                   rw [← eb3]; exact zit0 h124
                 simp only [if_neg (show ¬ n0 ≤ x by omega), if_neg hL, if_neg hD]
                 exact ⟨hU.tr k1, k2, k3, k4, k5⟩)
        · refine g_aload_n (i := 0) (by decide +kernel) rfl ?_
          refine g_cVV (st := _) (c_Rd_takeWord (n0 := n0) (f := x) hn hB2 u3 hn0 u5 (by omega) u6 u7) k_Rd_takeWord l_Rd_209 (by decide +kernel) (by omega) rfl rfl rfl rfl (Nat.le_of_ble_eq_true rfl) (by decide) ⟨by decide, by decide⟩ ?_
          rintro υ9 ⟨k1, k2, k3, k4, k5⟩
          rw [eb3] at k4 k5
          refine g_goto (off := 25) (tgt := 138) (by decide +kernel) (by decide) ?_
          refine g_retV (by decide +kernel) rfl ⟨by decide, by decide⟩ ?_
          show zTk _ _ _ _
          unfold zTk zTt zTb zTs
          rw [ez]
          first
            | (simp only [if_pos (show n0 ≤ x by omega)]
               exact ⟨hU.put (by decide), by rw [zs_ne (by decide)]; exact u5, zs_eq _ _ _ _, by rw [zs_ne (by decide)]; exact u6, by rw [zs_ne (by decide)]; exact u7⟩)
            | (have hL : zql (σ 178) x = true := by
                 rw [← eb3]; exact zit1 h106
               simp only [if_neg (show ¬ n0 ≤ x by omega), if_pos hL]
               exact ⟨hU.tr k1, k2, k3, k4, k5⟩)
            | (have hL : ¬ zql (σ 178) x = true := by
                 rw [← eb3]; exact zit0 h106
               have hD : zqd (σ 178) x = true := by
                 rw [← eb3]; exact zit1 h124
               simp only [if_neg (show ¬ n0 ≤ x by omega), if_neg hL, if_pos hD]
               exact ⟨hU.tr k1, k2, k3, k4, k5⟩)
            | (have hL : ¬ zql (σ 178) x = true := by
                 rw [← eb3]; exact zit0 h106
               have hD : ¬ zqd (σ 178) x = true := by
                 rw [← eb3]; exact zit0 h124
               simp only [if_neg (show ¬ n0 ≤ x by omega), if_neg hL, if_neg hD]
               exact ⟨hU.tr k1, k2, k3, k4, k5⟩)
      · refine g_aload_n (i := 0) (by decide +kernel) rfl ?_
        refine g_iconst (a := 0) (by decide +kernel) ?_
        refine g_puti f_Rd_61 (by decide +kernel) (by omega) rfl rfl ?_
        refine g_goto (off := 43) (tgt := 138) (by decide +kernel) (by decide) ?_
        refine g_retV (by decide +kernel) rfl ⟨by decide, by decide⟩ ?_
        show zTk _ _ _ _
        unfold zTk zTt zTb zTs
        rw [ez]
        first
          | (simp only [if_pos (show n0 ≤ x by omega)]
             exact ⟨hU.put (by decide), by rw [zs_ne (by decide)]; exact u5, zs_eq _ _ _ _, by rw [zs_ne (by decide)]; exact u6, by rw [zs_ne (by decide)]; exact u7⟩)
          | (have hL : zql (σ 178) x = true := by
               rw [← eb3]; exact zit1 h106
             simp only [if_neg (show ¬ n0 ≤ x by omega), if_pos hL]
             exact ⟨hU.tr k1, k2, k3, k4, k5⟩)
          | (have hL : ¬ zql (σ 178) x = true := by
               rw [← eb3]; exact zit0 h106
             have hD : zqd (σ 178) x = true := by
               rw [← eb3]; exact zit1 h124
             simp only [if_neg (show ¬ n0 ≤ x by omega), if_neg hL, if_pos hD]
             exact ⟨hU.tr k1, k2, k3, k4, k5⟩)
          | (have hL : ¬ zql (σ 178) x = true := by
               rw [← eb3]; exact zit0 h106
             have hD : ¬ zqd (σ 178) x = true := by
               rw [← eb3]; exact zit0 h124
             simp only [if_neg (show ¬ n0 ≤ x by omega), if_neg hL, if_neg hD]
             exact ⟨hU.tr k1, k2, k3, k4, k5⟩)
    refine g_aload_n (i := 0) (by decide +kernel) rfl ?_
    refine g_geti f_Rd_182 (by decide +kernel) (by omega) rfl rfl ?_
    refine g_aload_n (i := 0) (by decide +kernel) rfl ?_
    refine g_geti f_Rd_30 (by decide +kernel) (by omega) rfl rfl ?_
    refine g_icmp_ge (off := 50) (tgt := 66) (by decide +kernel) (by decide) ⟨by omega, by omega⟩ ⟨by omega, by omega⟩ (fun h16 => ?_) (fun h16 => ?_)
    · refine J66 ?_
      rw [← hz]
      refine zrn_e ?_
      first
        | exact Or.inl (by omega)
        | exact Or.inr (Bool.eq_false_iff.mpr (fun e => absurd (zqs_iff.mp e) (by rw [← eb]; omega)))
    · have hb := hB1 x (by omega)
      refine g_aload_n (i := 0) (by decide +kernel) rfl ?_
      refine g_getr f_Rd_18 (by decide +kernel) (by omega) rfl rfl ?_
      refine g_getr f_Rd_201 (by decide +kernel) (by omega) rfl rfl ?_
      refine g_aload_n (i := 0) (by decide +kernel) rfl ?_
      refine g_geti f_Rd_182 (by decide +kernel) (by omega) rfl rfl ?_
      refine g_iald (j := x) (by decide +kernel) (by omega) rfl (by omega) (by omega) (by decide) ?_
      refine g_bipush (a := 10) (by decide +kernel) (by decide) ?_
      refine g_icmp_eq (off := 20) (tgt := 53) (by decide +kernel) (by decide) ⟨by omega, by omega⟩ ⟨by omega, by omega⟩ (fun h33 => ?_) (fun h33 => ?_)
      · refine g_aload_n (i := 0) (by decide +kernel) rfl ?_
        refine g_dup (by decide +kernel) rfl ?_
        refine g_geti f_Rd_182 (by decide +kernel) (by omega) rfl rfl ?_
        refine g_iconst (a := 1) (by decide +kernel) ?_
        refine g_iadd (by decide +kernel) ?_
        refine g_puti f_Rd_182 (by decide +kernel) (by omega) rfl rfl ?_
        refine g_goto (off := -55) (tgt := 8) (by decide +kernel) (by decide) ?_
        rw [g5]
        exact ih (x + 1) _ (hT.put (by decide)) (by rw [zs_eq]; push_cast; omega) (by omega) (by omega) (by rw [← zrn_s (by omega) (zqs_iff.mpr (by rw [← eb]; omega))]; exact hz) (by omega)
      · refine g_aload_n (i := 0) (by decide +kernel) rfl ?_
        refine g_getr f_Rd_18 (by decide +kernel) (by omega) rfl rfl ?_
        refine g_getr f_Rd_201 (by decide +kernel) (by omega) rfl rfl ?_
        refine g_aload_n (i := 0) (by decide +kernel) rfl ?_
        refine g_geti f_Rd_182 (by decide +kernel) (by omega) rfl rfl ?_
        refine g_iald (j := x) (by decide +kernel) (by omega) rfl (by omega) (by omega) (by decide) ?_
        refine g_bipush (a := 32) (by decide +kernel) (by decide) ?_
        refine g_icmp_ne (off := 16) (tgt := 66) (by decide +kernel) (by decide) ⟨by omega, by omega⟩ ⟨by omega, by omega⟩ (fun h50 => ?_) (fun h50 => ?_)
        · refine J66 ?_
          rw [← hz]
          refine zrn_e ?_
          first
            | exact Or.inl (by omega)
            | exact Or.inr (Bool.eq_false_iff.mpr (fun e => absurd (zqs_iff.mp e) (by rw [← eb]; omega)))
        · refine g_aload_n (i := 0) (by decide +kernel) rfl ?_
          refine g_dup (by decide +kernel) rfl ?_
          refine g_geti f_Rd_182 (by decide +kernel) (by omega) rfl rfl ?_
          refine g_iconst (a := 1) (by decide +kernel) ?_
          refine g_iadd (by decide +kernel) ?_
          refine g_puti f_Rd_182 (by decide +kernel) (by omega) rfl rfl ?_
          refine g_goto (off := -55) (tgt := 8) (by decide +kernel) (by decide) ?_
          rw [g5]
          exact ih (x + 1) _ (hT.put (by decide)) (by rw [zs_eq]; push_cast; omega) (by omega) (by omega) (by rw [← zrn_s (by omega) (zqs_iff.mpr (by rw [← eb]; omega))]; exact hz) (by omega)
theorem c_Rd_takeToken {G : zG} {n : Nat} {σ : zSt} {n0 p : Nat} (hn : 189 ≤ n) (hB : zBt (σ 178)) (hl : σ 179 3 = (n0 : Int)) (hn0 : n0 ≤ 600) (hp : p ≤ n0) (h6 : σ 179 6 = (p : Int))  : Gm G y_Rd_takeToken m_Rd_takeToken 2 0 0 [vr G 179] n SH σ (zV n SH (fun σ' => zTk σ σ' n0 p)) := by
  refine g_enter (L := [(0, _)]) (by decide) rfl rfl rfl (Nat.le_of_ble_eq_true rfl) (fun X => ?_)
  refine g_aload_n (i := 0) (by decide +kernel) rfl ?_
  refine g_aload_n (i := 0) (by decide +kernel) rfl ?_
  refine g_geti f_Rd_34 (by decide +kernel) (by omega) rfl rfl ?_
  refine g_puti f_Rd_182 (by decide +kernel) (by omega) rfl rfl ?_
  exact w_Rd_takeToken hn hB hl hn0 hp (n0 + 1) p _ ((zTq.rf σ).put (by decide)) (by rw [zs_eq]; exact h6) (Nat.le_refl _) hp rfl (by omega)
