/-! MOMENTS (b 0 time, b 1 dark; b+1 state, b+2 place in it, b+3 pass, b+4 begin, b+5 since its begin, b+6 strength, b+7 share), the tape -/
theorem c_Mo_clear {G : zG} {n : Nat} {σ : zSt} {b : Nat} {k : Nat} (hn : 189 ≤ n) (hM : zMo SH b) (hk : k < 12) : Gm G y_Mo_clear m_Mo_clear 0 0 0 [vr G b, vi k] n SH σ (zV n SH (fun σ' => σ' = zs (zs (zs (zs (zs (zs σ (b + 1) k 0) (b + 2) k (-1)) (b + 3) k (-1)) (b + 4) k (-1)) (b + 5) k 0) (b + 7) k 0)) := by
  refine g_enter (L := [(0, _), (1, _)]) (by decide) rfl rfl rfl (Nat.le_of_ble_eq_true rfl) (fun X => ?_)
  have hb := hM.1
  refine g_aload_n (i := 0) (by decide +kernel) rfl ?_
  refine g_getr f_Mo_18 (by decide +kernel) (by omega) hM.a0 rfl ?_
  refine g_iload_n (i := 1) (by decide +kernel) rfl ?_
  refine g_iconst (a := 0) (by decide +kernel) ?_
  refine g_iast (by decide +kernel) (by omega) hM.a1 rfl (by omega) (by decide) ?_
  refine g_aload_n (i := 0) (by decide +kernel) rfl ?_
  refine g_getr f_Mo_22 (by decide +kernel) (by omega) hM.a0 rfl ?_
  refine g_iload_n (i := 1) (by decide +kernel) rfl ?_
  refine g_iconst (a := -1) (by decide +kernel) ?_
  refine g_iast (by decide +kernel) (by omega) hM.a2 rfl (by omega) (by decide) ?_
  refine g_aload_n (i := 0) (by decide +kernel) rfl ?_
  refine g_getr f_Mo_25 (by decide +kernel) (by omega) hM.a0 rfl ?_
  refine g_iload_n (i := 1) (by decide +kernel) rfl ?_
  refine g_iconst (a := -1) (by decide +kernel) ?_
  refine g_iast (by decide +kernel) (by omega) hM.a3 rfl (by omega) (by decide) ?_
  refine g_aload_n (i := 0) (by decide +kernel) rfl ?_
  refine g_getr f_Mo_28 (by decide +kernel) (by omega) hM.a0 rfl ?_
  refine g_iload_n (i := 1) (by decide +kernel) rfl ?_
  refine g_iconst (a := -1) (by decide +kernel) ?_
  refine g_iast (by decide +kernel) (by omega) hM.a4 rfl (by omega) (by decide) ?_
  refine g_aload_n (i := 0) (by decide +kernel) rfl ?_
  refine g_getr f_Mo_31 (by decide +kernel) (by omega) hM.a0 rfl ?_
  refine g_iload_n (i := 1) (by decide +kernel) rfl ?_
  refine g_iconst (a := 0) (by decide +kernel) ?_
  refine g_iast (by decide +kernel) (by omega) hM.a5 rfl (by omega) (by decide) ?_
  refine g_aload_n (i := 0) (by decide +kernel) rfl ?_
  refine g_getr f_Mo_37 (by decide +kernel) (by omega) hM.a0 rfl ?_
  refine g_iload_n (i := 1) (by decide +kernel) rfl ?_
  refine g_iconst (a := 0) (by decide +kernel) ?_
  refine g_iast (by decide +kernel) (by omega) hM.a7 rfl (by omega) (by decide) ?_
  refine g_retV (by decide +kernel) rfl ⟨by decide, by decide⟩ ?_
  exact rfl
theorem c_Mo_runs {G : zG} {n : Nat} {σ : zSt} {b : Nat} {k : Nat} (hn : 189 ≤ n) (hM : zMo SH b) (hk : k < 12) (hs : 0 ≤ σ (b + 1) k ∧ σ (b + 1) k ≤ 4) : Gm G y_Mo_runs m_Mo_runs 0 0 0 [vr G b, vi k] n SH σ (zI n SH (fun a σ' => a = (if σ (b + 1) k = 2 ∨ σ (b + 1) k = 3 then 1 else 0) ∧ σ' = σ)) := by
  refine g_enter (L := [(0, _), (1, _)]) (by decide) rfl rfl rfl (Nat.le_of_ble_eq_true rfl) (fun X => ?_)
  have hb := hM.1
  refine g_aload_n (i := 0) (by decide +kernel) rfl ?_
  refine g_getr f_Mo_18 (by decide +kernel) (by omega) hM.a0 rfl ?_
  refine g_iload_n (i := 1) (by decide +kernel) rfl ?_
  refine g_iald (by decide +kernel) (by omega) hM.a1 rfl (by omega) (by decide) ?_
  refine g_iconst (a := 2) (by decide +kernel) ?_
  refine g_icmp_eq (off := 13) (tgt := 20) (by decide +kernel) (by decide) ⟨by omega, by omega⟩ ⟨by omega, by omega⟩ (fun h7 => ?_) (fun h7 => ?_)
  · refine g_iconst (a := 1) (by decide +kernel) ?_
    refine g_goto (off := 4) (tgt := 25) (by decide +kernel) (by decide) ?_
    refine g_retI (by decide +kernel) rfl (Or.inr ⟨rfl, by omega⟩) ⟨by decide, by decide⟩ ?_
    exact ⟨by split <;> omega, rfl⟩
  · refine g_aload_n (i := 0) (by decide +kernel) rfl ?_
    refine g_getr f_Mo_18 (by decide +kernel) (by omega) hM.a0 rfl ?_
    refine g_iload_n (i := 1) (by decide +kernel) rfl ?_
    refine g_iald (by decide +kernel) (by omega) hM.a1 rfl (by omega) (by decide) ?_
    refine g_iconst (a := 3) (by decide +kernel) ?_
    refine g_icmp_ne (off := 7) (tgt := 24) (by decide +kernel) (by decide) ⟨by omega, by omega⟩ ⟨by omega, by omega⟩ (fun h17 => ?_) (fun h17 => ?_)
    · refine g_iconst (a := 0) (by decide +kernel) ?_
      refine g_retI (by decide +kernel) rfl (Or.inr ⟨rfl, by omega⟩) ⟨by decide, by decide⟩ ?_
      exact ⟨by split <;> omega, rfl⟩
    · refine g_iconst (a := 1) (by decide +kernel) ?_
      refine g_goto (off := 4) (tgt := 25) (by decide +kernel) (by decide) ?_
      refine g_retI (by decide +kernel) rfl (Or.inr ⟨rfl, by omega⟩) ⟨by decide, by decide⟩ ?_
      exact ⟨by split <;> omega, rfl⟩
theorem c_Mo_playedLocal {G : zG} {n : Nat} {σ : zSt} {b : Nat} {k : Nat} (hn : 189 ≤ n) (hM : zMo SH b) (hk : k < 12) (hs : 0 ≤ σ (b + 1) k ∧ σ (b + 1) k ≤ 4) : Gm G y_Mo_playedLocal m_Mo_playedLocal 0 0 0 [vr G b, vi k] n SH σ (zI n SH (fun a σ' => a = (if σ (b + 1) k = 2 then σ (b + 2) k else -1) ∧ σ' = σ)) := by
  refine g_enter (L := [(0, _), (1, _)]) (by decide) rfl rfl rfl (Nat.le_of_ble_eq_true rfl) (fun X => ?_)
  have hb := hM.1
  refine g_aload_n (i := 0) (by decide +kernel) rfl ?_
  refine g_getr f_Mo_18 (by decide +kernel) (by omega) hM.a0 rfl ?_
  refine g_iload_n (i := 1) (by decide +kernel) rfl ?_
  refine g_iald (by decide +kernel) (by omega) hM.a1 rfl (by omega) (by decide) ?_
  refine g_iconst (a := 2) (by decide +kernel) ?_
  refine g_icmp_ne (off := 12) (tgt := 19) (by decide +kernel) (by decide) ⟨by omega, by omega⟩ ⟨by omega, by omega⟩ (fun h7 => ?_) (fun h7 => ?_)
  · refine g_iconst (a := -1) (by decide +kernel) ?_
    refine g_retI (by decide +kernel) rfl (Or.inl rfl) ⟨by decide, by decide⟩ ?_
    exact ⟨by first | rw [if_pos h7] | rw [if_neg h7], rfl⟩
  · refine g_aload_n (i := 0) (by decide +kernel) rfl ?_
    refine g_getr f_Mo_22 (by decide +kernel) (by omega) hM.a0 rfl ?_
    refine g_iload_n (i := 1) (by decide +kernel) rfl ?_
    refine g_iald (by decide +kernel) (by omega) hM.a2 rfl (by omega) (by decide) ?_
    refine g_goto (off := 4) (tgt := 20) (by decide +kernel) (by decide) ?_
    refine g_retI (by decide +kernel) rfl (Or.inl rfl) ⟨by decide, by decide⟩ ?_
    exact ⟨by first | rw [if_pos h7] | rw [if_neg h7], rfl⟩
theorem w_Mo_bitsOf {G : zG} {X : zX} {n : Nat} {σ : zSt} {b : Nat} {N : Nat} {x : Int} (hn : 189 ≤ n) (hM : zMo SH b) (hst : ∀ k, k < 12 → 0 ≤ σ (b + 1) k ∧ σ (b + 1) k ≤ 4) (hN : N ≤ 12) (hx : zr x) : ∀ (m : Nat) (i : Nat) (x3 x4 : Int), x4 = (i : Int) → x3 = (zbits (fun j => decide (σ (b + 1) j = x)) i : Int) → i ≤ N → N < i + m → Go G X m_Mo_bitsOf (0, 0, 0, 0, 0) n SH σ 5 [(0, vr G b), (1, vi x), (2, vi (N : Int)), (3, vi x3), (4, vi x4)] [] (zI n SH (fun a σ' => a = (zbits (fun j => decide (σ (b + 1) j = x)) N : Int) ∧ σ' = σ)) := by
  intro m
  induction m with
  | zero => intro i x3 x4 e4 e3 hi hm; exact absurd hm (by omega)
  | succ m ih =>
    intro i x3 x4 e4 e3 hi hm
    have hb := hM.1
    subst e4 e3
    have hz := zbits_le (p := (fun j => decide (σ (b + 1) j = x))) (show i ≤ 12 by omega)
    refine g_iload (i := 4) (by decide +kernel) rfl ?_
    refine g_iload_n (i := 2) (by decide +kernel) rfl ?_
    refine g_icmp_ge (off := 27) (tgt := 35) (by decide +kernel) (by decide) ⟨by omega, by omega⟩ ⟨by omega, by omega⟩ (fun h8 => ?_) (fun h8 => ?_)
    · refine g_iload_n (i := 3) (by decide +kernel) rfl ?_
      refine g_retI (by decide +kernel) rfl (Or.inl rfl) ⟨by decide, by decide⟩ ?_
      exact ⟨by rw [show i = N by omega], rfl⟩
    · have hk2 := hst i (by omega)
      have hp : 2 ^ i < 4096 := Nat.pow_lt_pow_right (by decide) (show i < 12 by omega)
      refine g_aload_n (i := 0) (by decide +kernel) rfl ?_
      refine g_getr f_Mo_18 (by decide +kernel) (by omega) hM.a0 rfl ?_
      refine g_iload (i := 4) (by decide +kernel) rfl ?_
      refine g_iald (j := i) (by decide +kernel) (by omega) hM.a1 rfl (by omega) (by decide) ?_
      refine g_iload_n (i := 1) (by decide +kernel) rfl ?_
      refine g_icmp_ne (off := 10) (tgt := 29) (by decide +kernel) (by decide) ⟨by omega, by omega⟩ ⟨by omega, by omega⟩ (fun h19 => ?_) (fun h19 => ?_)
      · refine g_iinc (i := 4) (b := 1) (L' := [(0, _), (1, _), (2, _), (3, _), (4, _)]) (by decide +kernel) rfl rfl rfl ?_
        refine g_goto (off := -27) (tgt := 5) (by decide +kernel) (by decide) ?_
        exact ih (i + 1) _ _ (by omega) (by first | rw [zbits_t (by simpa using h19)] | rw [zbits_f (by simpa using h19)]) (by omega) (by omega)
      · refine g_iload_n (i := 3) (by decide +kernel) rfl ?_
        refine g_iconst (a := 1) (by decide +kernel) ?_
        refine g_iload (i := 4) (by decide +kernel) rfl ?_
        refine g_ishl1 (by decide +kernel) (by omega) ?_
        refine g_ior (by decide +kernel) (by omega) (by omega) ?_
        refine g_istore_n (i := 3) (L' := [(0, _), (1, _), (2, _), (3, _), (4, _)]) (by decide +kernel) rfl rfl ?_
        refine g_iinc (i := 4) (b := 1) (L' := [(0, _), (1, _), (2, _), (3, _), (4, _)]) (by decide +kernel) rfl rfl rfl ?_
        refine g_goto (off := -27) (tgt := 5) (by decide +kernel) (by decide) ?_
        exact ih (i + 1) _ _ (by omega) (by first | rw [zbits_t (by simpa using h19)] | rw [zbits_f (by simpa using h19)]) (by omega) (by omega)
theorem c_Mo_bitsOf {G : zG} {n : Nat} {σ : zSt} {b : Nat} {N : Nat} {x : Int} (hn : 189 ≤ n) (hM : zMo SH b) (hst : ∀ k, k < 12 → 0 ≤ σ (b + 1) k ∧ σ (b + 1) k ≤ 4) (hN : N ≤ 12) (hx : zr x) : Gm G y_Mo_bitsOf m_Mo_bitsOf 0 0 0 [vr G b, vi x, vi (N : Int)] n SH σ (zI n SH (fun a σ' => a = (zbits (fun j => decide (σ (b + 1) j = x)) N : Int) ∧ σ' = σ)) := by
  refine g_enter (L := [(0, _), (1, _), (2, _)]) (by decide) rfl rfl rfl (Nat.le_of_ble_eq_true rfl) (fun X => ?_)
  refine g_iconst (a := 0) (by decide +kernel) ?_
  refine g_istore_n (i := 3) (L' := [(0, _), (1, _), (2, _), (3, _)]) (by decide +kernel) rfl rfl ?_
  refine g_iconst (a := 0) (by decide +kernel) ?_
  refine g_istore (i := 4) (L' := [(0, _), (1, _), (2, _), (3, _), (4, _)]) (by decide +kernel) rfl rfl ?_
  exact w_Mo_bitsOf hn hM hst hN hx (N + 1) 0 _ _ rfl rfl (by omega) (by omega)
theorem w_Mo_bitsOfSeen {G : zG} {X : zX} {n : Nat} {σ : zSt} {b : Nat} {N : Nat} (hn : 189 ≤ n) (hM : zMo SH b) (hsh : ∀ k, k < 12 → zr (σ (b + 7) k)) (hN : N ≤ 12) : ∀ (m : Nat) (i : Nat) (x2 x3 : Int), x3 = (i : Int) → x2 = (zbits (fun j => decide (0 < σ (b + 7) j)) i : Int) → i ≤ N → N < i + m → Go G X m_Mo_bitsOfSeen (0, 0, 0, 0, 0) n SH σ 4 [(0, vr G b), (1, vi (N : Int)), (2, vi x2), (3, vi x3)] [] (zI n SH (fun a σ' => a = (zbits (fun j => decide (0 < σ (b + 7) j)) N : Int) ∧ σ' = σ)) := by
  intro m
  induction m with
  | zero => intro i x2 x3 e4 e3 hi hm; exact absurd hm (by omega)
  | succ m ih =>
    intro i x2 x3 e4 e3 hi hm
    have hb := hM.1
    subst e4 e3
    have hz := zbits_le (p := (fun j => decide (0 < σ (b + 7) j))) (show i ≤ 12 by omega)
    refine g_iload_n (i := 3) (by decide +kernel) rfl ?_
    refine g_iload_n (i := 1) (by decide +kernel) rfl ?_
    refine g_icmp_ge (off := 24) (tgt := 30) (by decide +kernel) (by decide) ⟨by omega, by omega⟩ ⟨by omega, by omega⟩ (fun h6 => ?_) (fun h6 => ?_)
    · refine g_iload_n (i := 2) (by decide +kernel) rfl ?_
      refine g_retI (by decide +kernel) rfl (Or.inl rfl) ⟨by decide, by decide⟩ ?_
      exact ⟨by rw [show i = N by omega], rfl⟩
    · have hk2 := hsh i (by omega)
      have hp : 2 ^ i < 4096 := Nat.pow_lt_pow_right (by decide) (show i < 12 by omega)
      refine g_aload_n (i := 0) (by decide +kernel) rfl ?_
      refine g_getr f_Mo_37 (by decide +kernel) (by omega) hM.a0 rfl ?_
      refine g_iload_n (i := 3) (by decide +kernel) rfl ?_
      refine g_iald (j := i) (by decide +kernel) (by omega) hM.a7 rfl (by omega) (by decide) ?_
      refine g_if_le (off := 9) (tgt := 24) (by decide +kernel) (by decide) ⟨by omega, by omega⟩ (fun h15 => ?_) (fun h15 => ?_)
      · refine g_iinc (i := 3) (b := 1) (L' := [(0, _), (1, _), (2, _), (3, _)]) (by decide +kernel) rfl rfl rfl ?_
        refine g_goto (off := -23) (tgt := 4) (by decide +kernel) (by decide) ?_
        exact ih (i + 1) _ _ (by omega) (by first | rw [zbits_t (by simpa using h15)] | rw [zbits_f (by simpa using h15)]) (by omega) (by omega)
      · refine g_iload_n (i := 2) (by decide +kernel) rfl ?_
        refine g_iconst (a := 1) (by decide +kernel) ?_
        refine g_iload_n (i := 3) (by decide +kernel) rfl ?_
        refine g_ishl1 (by decide +kernel) (by omega) ?_
        refine g_ior (by decide +kernel) (by omega) (by omega) ?_
        refine g_istore_n (i := 2) (L' := [(0, _), (1, _), (2, _), (3, _)]) (by decide +kernel) rfl rfl ?_
        refine g_iinc (i := 3) (b := 1) (L' := [(0, _), (1, _), (2, _), (3, _)]) (by decide +kernel) rfl rfl rfl ?_
        refine g_goto (off := -23) (tgt := 4) (by decide +kernel) (by decide) ?_
        exact ih (i + 1) _ _ (by omega) (by first | rw [zbits_t (by simpa using h15)] | rw [zbits_f (by simpa using h15)]) (by omega) (by omega)
theorem c_Mo_bitsOfSeen {G : zG} {n : Nat} {σ : zSt} {b : Nat} {N : Nat} (hn : 189 ≤ n) (hM : zMo SH b) (hsh : ∀ k, k < 12 → zr (σ (b + 7) k)) (hN : N ≤ 12) : Gm G y_Mo_bitsOfSeen m_Mo_bitsOfSeen 0 0 0 [vr G b, vi (N : Int)] n SH σ (zI n SH (fun a σ' => a = (zbits (fun j => decide (0 < σ (b + 7) j)) N : Int) ∧ σ' = σ)) := by
  refine g_enter (L := [(0, _), (1, _)]) (by decide) rfl rfl rfl (Nat.le_of_ble_eq_true rfl) (fun X => ?_)
  refine g_iconst (a := 0) (by decide +kernel) ?_
  refine g_istore_n (i := 2) (L' := [(0, _), (1, _), (2, _)]) (by decide +kernel) rfl rfl ?_
  refine g_iconst (a := 0) (by decide +kernel) ?_
  refine g_istore_n (i := 3) (L' := [(0, _), (1, _), (2, _), (3, _)]) (by decide +kernel) rfl rfl ?_
  exact w_Mo_bitsOfSeen hn hM hsh hN (N + 1) 0 _ _ rfl rfl (by omega) (by omega)
/-- all states in one number -/
def zall (f : Nat → Int) : Nat → Int
  | 0 => 0
  | n + 1 => zall f n * 8 + f n
theorem w_Mo_allStates {G : zG} {X : zX} {n : Nat} {σ : zSt} {b : Nat} {N : Nat} (hn : 189 ≤ n) (hM : zMo SH b) (hst : ∀ k, k < 12 → 0 ≤ σ (b + 1) k ∧ σ (b + 1) k ≤ 4) (hN : N ≤ 12) : ∀ (m : Nat) (i : Nat) (x2 x4 : Int), x4 = (i : Int) → x2 = zall (σ (b + 1)) i → i ≤ N → N < i + m → Go G X m_Mo_allStates (0, 0, 0, 0, 0) n SH σ 5 [(0, vr G b), (1, vi (N : Int)), (2, vl x2), (4, vi x4)] [] (zL n SH (fun a σ' => a = zall (σ (b + 1)) N ∧ σ' = σ)) := by
  intro m
  induction m with
  | zero => intro i x2 x4 e4 e3 hi hm; exact absurd hm (by omega)
  | succ m ih =>
    intro i x2 x4 e4 e3 hi hm
    have hb := hM.1
    subst e4 e3
    refine g_iload (i := 4) (by decide +kernel) rfl ?_
    refine g_iload_n (i := 1) (by decide +kernel) rfl ?_
    refine g_icmp_ge (off := 24) (tgt := 32) (by decide +kernel) (by decide) ⟨by omega, by omega⟩ ⟨by omega, by omega⟩ (fun h8 => ?_) (fun h8 => ?_)
    · refine g_lload_n (i := 2) (by decide +kernel) rfl ?_
      refine g_retL (by decide +kernel) rfl ⟨by decide, by decide⟩ ?_
      exact ⟨by rw [show i = N by omega], rfl⟩
    · have hk2 := hst i (by omega)
      refine g_lload_n (i := 2) (by decide +kernel) rfl ?_
      refine g_ldc2 (x := 40) (a := 8) (by decide +kernel) c_Mo_40 (by decide) ?_
      refine g_lmul (by decide +kernel) ?_
      refine g_aload_n (i := 0) (by decide +kernel) rfl ?_
      refine g_getr f_Mo_18 (by decide +kernel) (by omega) hM.a0 rfl ?_
      refine g_iload (i := 4) (by decide +kernel) rfl ?_
      refine g_iald (j := i) (by decide +kernel) (by omega) hM.a1 rfl (by omega) (by decide) ?_
      refine g_i2l (by decide +kernel) ⟨by omega, by omega⟩ ?_
      refine g_ladd (by decide +kernel) ?_
      refine g_lstore_n (i := 2) (L' := [(0, _), (1, _), (2, _), (4, _)]) (by decide +kernel) rfl rfl ?_
      refine g_iinc (i := 4) (b := 1) (L' := [(0, _), (1, _), (2, _), (4, _)]) (by decide +kernel) rfl rfl rfl ?_
      refine g_goto (off := -24) (tgt := 5) (by decide +kernel) (by decide) ?_
      exact ih (i + 1) _ _ (by omega) rfl (by omega) (by omega)
theorem c_Mo_allStates {G : zG} {n : Nat} {σ : zSt} {b : Nat} {N : Nat} (hn : 189 ≤ n) (hM : zMo SH b) (hst : ∀ k, k < 12 → 0 ≤ σ (b + 1) k ∧ σ (b + 1) k ≤ 4) (hN : N ≤ 12) : Gm G y_Mo_allStates m_Mo_allStates 0 0 0 [vr G b, vi (N : Int)] n SH σ (zL n SH (fun a σ' => a = zall (σ (b + 1)) N ∧ σ' = σ)) := by
  refine g_enter (L := [(0, _), (1, _)]) (by decide) rfl rfl rfl (Nat.le_of_ble_eq_true rfl) (fun X => ?_)
  refine g_lconst (c := 0) (a := 0) (by decide +kernel) (by decide) ?_
  refine g_lstore_n (i := 2) (L' := [(0, _), (1, _), (2, _)]) (by decide +kernel) rfl rfl ?_
  refine g_iconst (a := 0) (by decide +kernel) ?_
  refine g_istore (i := 4) (L' := [(0, _), (1, _), (2, _), (4, _)]) (by decide +kernel) rfl rfl ?_
  exact w_Mo_allStates hn hM hst hN (N + 1) 0 _ _ rfl rfl (by omega) (by omega)
theorem zi_shrI {a : Int} {i : Nat} (ha : zr a) (h : i < 31) : Int32.ofInt a >>> (Int32.ofInt (i : Int) &&& 31) = Int32.ofInt (a / 2 ^ i) := by
  have h1 : ∀ i : Nat, i < 31 → ((Int32.ofInt (i : Int) &&& 31).toBitVec.smod 32).toNat = i := by decide
  rw [← Int32.toInt_inj, pk_shr _ _ i (h1 i h), zi_toInt ha, Int.shiftRight_eq_div_pow]
  have hp : (0 : Int) < 2 ^ i := Int.pow_pos (by decide)
  have h2 : (1 : Int) ≤ 2 ^ i := hp
  have hb : zr (a / 2 ^ i) := by
    constructor
    · apply Int.le_ediv_of_mul_le hp
      have : (-2147483648 : Int) * 2 ^ i ≤ -2147483648 * 1 := Int.mul_le_mul_of_nonpos_left (by decide) h2
      omega
    · apply Int.ediv_le_of_le_mul hp
      have : (2147483647 : Int) * 1 ≤ 2147483647 * 2 ^ i := Int.mul_le_mul_of_nonneg_left h2 (by decide)
      omega
  rw [zi_toInt hb]
  norm_cast
theorem zi_and255 (a : Int) : Int32.ofInt a &&& Int32.ofInt 255 = Int32.ofInt (a % 256) := by
  rw [pk_and (Int32.ofInt a) (m := Int32.ofInt 255) 8 (by decide), show a % 256 = (((a % 256).toNat : Nat) : Int) by omega, zi_nat, Int32.toBitVec_ofInt, BitVec.toNat_ofInt]
  congr 1
  omega
section GO
variable {G : zG} {X : zX} {M : zM} {κ : zK} {n : Nat} {sh : Nat → zSh} {σ : zSt} {pc : Nat} {L L' : List (Nat × Value)} {st : List Value} {post : zPost}
theorem g_ishrI {a : Int} {i : Nat} (hd : decode M.1 pc = .ok (.ishr, 1)) (ha : zr a) (hi : i < 31) (k : Go G X M κ n sh σ (pc + 1) L (vi (a / 2 ^ i) :: st) post) : Go G X M κ n sh σ pc L (vi (i : Int) :: vi a :: st) post := fun C H locs ls h1 h2 h3 h4 => lv_ishr C.1 C.2.1 hd (by rw [zi_shrI ha hi]; exact k C H locs ls h1 h2 h3 h4)
theorem g_and255 {a : Int} (hd : decode M.1 pc = .ok (.iand, 1)) (k : Go G X M κ n sh σ (pc + 1) L (vi (a % 256) :: st) post) : Go G X M κ n sh σ pc L (vi 255 :: vi a :: st) post := fun C H locs ls h1 h2 h3 h4 => lv_iand C.1 C.2.1 hd (by rw [zi_and255]; exact k C H locs ls h1 h2 h3 h4)
end GO
/-- the i-th of the four bytes of a number -/
def zbyte (x : Int) (i : Nat) : Int := x / 2 ^ (24 - 8 * i) % 256
def zTape (σ σ' : zSt) (x : Int) (c : Nat) : Prop := σ' 177 = zu (σ 177) 1 (σ 177 1 + c) ∧ (∀ j, j < c → σ' 178 ((σ 177 1).toNat + j) = zbyte x j) ∧ (∀ j, (j < (σ 177 1).toNat ∨ (σ 177 1).toNat + c ≤ j) → σ' 178 j = σ 178 j) ∧ ∀ a, a ≠ 177 → a ≠ 178 → σ' a = σ a
theorem w_Ta_putInt {G : zG} {X : zX} {n : Nat} {σ : zSt} {x : Int} (hn : 189 ≤ n) (hx : zr x) (hl : 0 ≤ σ 177 1 ∧ σ 177 1 + 4 ≤ 600) : ∀ (m : Nat) (i : Nat) (x2 : Int) (τ : zSt), x2 = 24 - 8 * (i : Int) → zTape σ τ x i → i ≤ 4 → 4 < i + m → Go G X m_Ta_putInt (0, 0, 0, 0, 0) n SH τ 3 [(0, vr G 177), (1, vi x), (2, vi x2)] [] (zV n SH (fun σ' => zTape σ σ' x 4)) := by
  intro m
  induction m with
  | zero => intro i x2 τ e2 ht hi hm; exact absurd hm (by omega)
  | succ m ih =>
    intro i x2 τ e2 ht hi hm
    obtain ⟨t1, t2, t3, t4⟩ := id ht
    have s1 : τ 177 1 = σ 177 1 + i := by rw [t1, zu_eq]
    refine g_iload_n (i := 2) (by decide +kernel) rfl ?_
    refine g_if_lt (off := 35) (tgt := 39) (by decide +kernel) (by decide) ⟨by omega, by omega⟩ (fun h4 => ?_) (fun h4 => ?_)
    · refine g_retV (by decide +kernel) rfl ⟨by decide, by decide⟩ ?_
      rw [show i = 4 by omega] at ht
      exact ht
    · refine g_aload_n (i := 0) (by decide +kernel) rfl ?_
      refine g_getr f_Ta_9 (by decide +kernel) (by omega) rfl rfl ?_
      refine g_aload_n (i := 0) (by decide +kernel) rfl ?_
      refine g_geti f_Ta_15 (by decide +kernel) (by omega) rfl rfl ?_
      refine g_iload_n (i := 1) (by decide +kernel) rfl ?_
      refine g_iload_n (i := 2) (by decide +kernel) rfl ?_
      refine g_eq (st' := [vi ((24 - 8 * i : Nat) : Int), vi x, vi (τ 177 1), vr G 178]) ?_ rfl rfl (by rw [show ((24 - 8 * i : Nat) : Int) = x2 by omega])
      refine g_ishrI (by decide +kernel) hx (by omega) ?_
      refine g_sipush (a := 255) (by decide +kernel) (by decide) ?_
      refine g_and255 (by decide +kernel) ?_
      refine g_iast (j := (σ 177 1).toNat + i) (by decide +kernel) (by omega) rfl (by omega) (by omega) (by decide) ?_
      refine g_aload_n (i := 0) (by decide +kernel) rfl ?_
      refine g_dup (by decide +kernel) rfl ?_
      refine g_geti f_Ta_15 (by decide +kernel) (by omega) rfl rfl ?_
      refine g_iconst (a := 1) (by decide +kernel) ?_
      refine g_iadd (by decide +kernel) ?_
      refine g_puti f_Ta_15 (by decide +kernel) (by omega) rfl rfl ?_
      refine g_iinc (i := 2) (b := -8) (L' := [(0, _), (1, _), (2, _)]) (by decide +kernel) rfl rfl rfl ?_
      refine g_goto (off := -33) (tgt := 3) (by decide +kernel) (by decide) ?_
      refine ih (i + 1) _ _ (by omega) ⟨?_, fun j hj => ?_, fun j hj => ?_, fun a h1 h2 => ?_⟩ (by omega) (by omega)
      · simp only [zs_app, if_true]
        simp only [show ¬ (177 : Nat) = 178 by decide, if_false, s1, t1]
        funext j
        simp only [zu_app]
        split
        · push_cast; omega
        · rfl
      · rcases Nat.lt_or_ge j i with q | q
        · have := t2 j q
          simpa [zs_app, zu_app, show ¬ (σ 177 1).toNat + j = (σ 177 1).toNat + i by omega, show ¬ j = i by omega] using this
        · have e : j = i := by omega
          subst e
          simp [zs_app, zu_app, zbyte]
      · have := t3 j (by omega)
        simpa [zs_app, zu_app, show ¬ j = (σ 177 1).toNat + i by omega] using this
      · rw [zs_other h1, zs_other h2]; exact t4 a h1 h2
theorem c_Ta_putInt {G : zG} {n : Nat} {σ : zSt} {x : Int} (hn : 189 ≤ n) (hx : zr x) (hl : 0 ≤ σ 177 1 ∧ σ 177 1 + 4 ≤ 600) : Gm G y_Ta_putInt m_Ta_putInt 0 0 0 [vr G 177, vi x] n SH σ (zV n SH (fun σ' => zTape σ σ' x 4)) := by
  refine g_enter (L := [(0, _), (1, _)]) (by decide) rfl rfl rfl (Nat.le_of_ble_eq_true rfl) (fun X => ?_)
  refine g_bipush (a := 24) (by decide +kernel) (by decide) ?_
  refine g_istore_n (i := 2) (L' := [(0, _), (1, _), (2, _)]) (by decide +kernel) rfl rfl ?_
  exact w_Ta_putInt hn hx hl 5 0 _ σ (by omega) ⟨by funext j; rw [zu_app]; split <;> simp_all, fun j hj => by omega, fun j _ => rfl, fun a _ _ => rfl⟩ (by omega) (by omega)
