theorem zpop_bits {p : Nat → Bool} {n : Nat} (hn : n ≤ 12) : zpop (zbits p n) = zcnt p n := by
  unfold zpop
  rw [zcnt_congr (q := fun k => decide (k < n) && p k) (fun k _ => zbits_test)]
  have : ∀ m, n ≤ m → zcnt (fun k => decide (k < n) && p k) m = zcnt p n := by
    intro m
    induction m with
    | zero => intro h; rw [show n = 0 by omega]; rfl
    | succ m ih =>
      intro h
      rcases Nat.lt_or_ge m n with q | q
      · rw [show m + 1 = n by omega]
        exact zcnt_congr (fun k hk => by simp [hk])
      · rw [zcnt_f (by simp; omega)]
        exact ih q
  exact this 12 hn
theorem zbits_and {p : Nat → Bool} {n i : Nat} (h : i ≤ n) : zbits p n &&& (2 ^ i - 1) = zbits p i := by
  apply Nat.eq_of_testBit_eq
  intro k
  rw [Nat.testBit_and, zbits_test, zbits_test, Nat.testBit_two_pow_sub_one]
  by_cases hk : k < i
  · simp [hk, show k < n by omega]
  · simp [hk]
theorem zbits_bit {p : Nat → Bool} {n i : Nat} : (zbits p n / 2 ^ i) &&& 1 = if (decide (i < n) && p i) = true then 1 else 0 := by
  rw [← zbits_test (p := p), Nat.and_one_is_mod, Nat.testBit_eq_decide_div_mod_eq]
  have : zbits p n / 2 ^ i % 2 < 2 := Nat.mod_lt _ (by decide)
  simp only [decide_eq_true_eq]
  split <;> omega
/-- whether q is on the way out from k -/
def zwi (ar : Nat → Int) (q : Nat) : Nat → Nat → Bool
  | 0, _ => false
  | f + 1, k => if k = q then true else if ar k = -1 then false else zwi ar q f (ar k).toNat
theorem zwi_s (ar : Nat → Int) (q f k : Nat) : zwi ar q (f + 1) k = if k = q then true else if ar k = -1 then false else zwi ar q f (ar k).toNat := rfl
/-- with what is around of smaller number the way ends by itself -/
theorem zwi_enough {ar : Nat → Int} {q : Nat} {N : Nat} (h : ∀ k, k < N → ar k < k) (h0 : ∀ k, k < N → -1 ≤ ar k) : ∀ (f g k : Nat), k < f → k < g → k < N → zwi ar q f k = zwi ar q g k := by
  intro f
  induction f with
  | zero => intro g k h1; omega
  | succ f ih =>
    intro g k h1 h2 h3
    cases g with
    | zero => omega
    | succ g =>
      rw [zwi_s, zwi_s]
      split
      · rfl
      · split
        · rfl
        · have c := h k h3
          have d := h0 k h3
          exact ih g _ (by omega) (by omega) (by omega)
theorem zwi_small {ar : Nat → Int} {q N : Nat} (h : ∀ k, k < N → ar k < k) (h0 : ∀ k, k < N → -1 ≤ ar k) : ∀ (f k : Nat), k < N → k < q → zwi ar q f k = false := by
  intro f
  induction f with
  | zero => intro k _ _; rfl
  | succ f ih =>
    intro k h1 h2
    rw [zwi_s, if_neg (by omega)]
    split
    · rfl
    · have c := h k h1
      have d := h0 k h1
      exact ih _ (by omega) (by omega)
/-- what is around has a smaller number -/
def zTree (σ : zSt) (b : Nat) : Prop := ∀ k, k < (σ b 0).toNat → σ (b + 2) k < k
/-- the numbers of a Show come to another one -/
def zCopy (σ σ' : zSt) (b f : Nat) : Prop := σ' b 0 = σ f 0 ∧ σ' b 8 = σ f 8 ∧ (∀ r, 1 ≤ r → r ≤ 6 → ∀ k, k < 12 → σ' (b + r) k = σ (f + r) k) ∧ (∀ k, k < 108 → σ' (b + 7) k = σ (f + 7) k) ∧ (∀ i, i < 6 → σ' (b + 8) i = σ (f + 8) i ∧ σ' (b + 9) i = σ (f + 9) i) ∧ ∀ a, (a < b ∨ b + 10 ≤ a) → σ' a = σ a
theorem c_Sh_leaves {G : zG} {n : Nat} {σ : zSt} {b : Nat} (hn : 189 ≤ n) (hS : zSw SH b) (hg : zGood σ b) : Gm G y_Sh_leaves m_Sh_leaves 1 0 0 [vr G b] n SH σ (zI n SH (fun a σ' => a = (zcnt (fun j => decide (σ (b + 1) j = 0)) (σ b 0).toNat : Int) ∧ σ' = σ)) := by
  refine g_enter (L := [(0, _)]) (by decide) rfl rfl rfl (Nat.le_of_ble_eq_true rfl) (fun X => ?_)
  have hb := hS.1
  have hc := hg.1
  refine g_aload_n (i := 0) (by decide +kernel) rfl ?_
  refine g_cVI (st := []) (c_Sh_bitsOfLeaves hn hS hg) k_Sh_bitsOfLeaves l_Sh_56 (by decide +kernel) (by omega) hS.a0 rfl rfl rfl (Nat.le_of_ble_eq_true rfl) (by decide) ⟨by decide, by decide⟩ ?_
  rintro a σ1 ⟨rfl, hσ⟩
  obtain rfl := hσ.symm
  refine g_cSI (st := []) (c_In_bitCount (zbits_le (m := 12) (by omega))) k_In_bitCount l_Sh_60 (by decide +kernel) rfl rfl (Nat.le_of_ble_eq_true rfl) (by decide) ⟨by decide, by decide⟩ ?_
  rintro a σ1 ⟨rfl, hσ⟩
  obtain rfl := hσ.symm
  refine g_retI (by decide +kernel) rfl (Or.inl rfl) ⟨by decide, by decide⟩ ?_
  exact ⟨by rw [zpop_bits (by omega)], rfl⟩
theorem w_Sh_bitsWithin {G : zG} {X : zX} {n : Nat} {σ : zSt} {b : Nat} {k : Nat} (hn : 189 ≤ n) (hS : zSw SH b) (hg : zGood σ b) (ht : zTree σ b) (hk : k < (σ b 0).toNat) : ∀ (m : Nat) (i : Nat) (x2 x3 : Int), x3 = (i : Int) → x2 = (zbits (fun j => zwi (σ (b + 2)) k 12 j) i : Int) → k < i → i ≤ (σ b 0).toNat → (σ b 0).toNat < i + m → Go G X m_Sh_bitsWithin (0, 0, 0, 0, 0) n SH σ 8 [(0, vr G b), (1, vi k), (2, vi x2), (3, vi x3)] [] (zI n SH (fun a σ' => a = (zbits (fun j => zwi (σ (b + 2)) k 12 j) (σ b 0).toNat : Int) ∧ σ' = σ)) := by
  intro m
  induction m with
  | zero => intro i x2 x3 e3 e2 hki hi hm; exact absurd hm (by omega)
  | succ m ih =>
    intro i x2 x3 e3 e2 hki hi hm
    have hb := hS.1
    have hc := hg.1
    subst e3 e2
    have hz := zbits_le (p := (fun j => zwi (σ (b + 2)) k 12 j)) (show i ≤ 12 by omega)
    refine g_iload_n (i := 3) (by decide +kernel) rfl ?_
    refine g_aload_n (i := 0) (by decide +kernel) rfl ?_
    refine g_geti f_Sh_39 (by decide +kernel) (by omega) hS.a0 rfl ?_
    refine g_icmp_ge (off := 39) (tgt := 52) (by decide +kernel) (by decide) ⟨by omega, by omega⟩ ⟨by omega, by omega⟩ (fun h13 => ?_) (fun h13 => ?_)
    · refine g_iload_n (i := 2) (by decide +kernel) rfl ?_
      refine g_retI (by decide +kernel) rfl (Or.inl rfl) ⟨by decide, by decide⟩ ?_
      exact ⟨by rw [show i = (σ b 0).toNat by omega], rfl⟩
    · have hk2 := hg.2.1 i (by omega)
      have hp : 2 ^ i < 4096 := Nat.pow_lt_pow_right (by decide) (show i < 12 by omega)
      have hti := ht i (by omega)
      have ar0 : ∀ q, q < (σ b 0).toNat → -1 ≤ σ (b + 2) q := fun q hq => (hg.2.1 q (by omega)).2.1.1
      refine g_aload_n (i := 0) (by decide +kernel) rfl ?_
      refine g_getr f_Sh_15 (by decide +kernel) (by omega) hS.a0 rfl ?_
      refine g_iload_n (i := 3) (by decide +kernel) rfl ?_
      refine g_iald (j := i) (by decide +kernel) (by omega) hS.a2 rfl (by omega) (by decide) ?_
      refine g_iconst (a := -1) (by decide +kernel) ?_
      refine g_icmp_eq (off := 23) (tgt := 46) (by decide +kernel) (by decide) ⟨by omega, by omega⟩ ⟨by omega, by omega⟩ (fun h23 => ?_) (fun h23 => ?_)
      · have hw : (fun j => zwi (σ (b + 2)) k 12 j) i = false := by show zwi _ _ _ _ = false; rw [zwi_s, if_neg (by omega), if_pos h23]
        refine g_iinc (i := 3) (b := 1) (L' := [(0, _), (1, _), (2, _), (3, _)]) (by decide +kernel) rfl rfl rfl ?_
        refine g_goto (off := -41) (tgt := 8) (by decide +kernel) (by decide) ?_
        exact ih (i + 1) _ _ (by omega) (by first | rw [zbits_t hw] | rw [zbits_f hw]) (by omega) (by omega) (by omega)
      · have hq2 : zbits (fun j => zwi (σ (b + 2)) k 12 j) i / 2 ^ (σ (b + 2) i).toNat < 4096 := Nat.lt_of_le_of_lt (Nat.div_le_self _ _) hz
        have hw : (fun j => zwi (σ (b + 2)) k 12 j) i = zwi (σ (b + 2)) k 12 (σ (b + 2) i).toNat := by
          show zwi _ _ _ _ = _
          rw [zwi_s, if_neg (by omega), if_neg h23]
          exact zwi_enough ht ar0 _ _ _ (by omega) (by omega) (by omega)
        refine g_iload_n (i := 2) (by decide +kernel) rfl ?_
        refine g_aload_n (i := 0) (by decide +kernel) rfl ?_
        refine g_getr f_Sh_15 (by decide +kernel) (by omega) hS.a0 rfl ?_
        refine g_iload_n (i := 3) (by decide +kernel) rfl ?_
        refine g_iald (j := i) (by decide +kernel) (by omega) hS.a2 rfl (by omega) (by decide) ?_
        refine g_eq (st' := [vi (((σ (b + 2) i).toNat : Nat) : Int), vi ((zbits (fun j => zwi (σ (b + 2)) k 12 j) i : Nat) : Int)]) ?_ rfl rfl (by rw [show (((σ (b + 2) i).toNat : Nat) : Int) = σ (b + 2) i by omega])
        refine g_ishr (by decide +kernel) (by omega) (by omega) ?_
        refine g_iconst (a := 1) (by decide +kernel) ?_
        refine g_iand (by decide +kernel) (y := 1) (by omega) (by omega) ?_
        refine g_iconst (a := 1) (by decide +kernel) ?_
        refine g_icmp_ne (off := 9) (tgt := 46) (by decide +kernel) (by decide) ⟨by omega, by rw [zbits_bit]; split <;> decide⟩ ⟨by omega, by omega⟩ (fun h37 => ?_) (fun h37 => ?_)
        · have hw2 : (fun j => zwi (σ (b + 2)) k 12 j) i = false := by
            rw [hw]
            cases hx : zwi (σ (b + 2)) k 12 (σ (b + 2) i).toNat with
            | false => rfl
            | true => exact absurd (by rw [zbits_bit, if_pos (by rw [hx, decide_eq_true (show (σ (b + 2) i).toNat < i by omega)]; rfl)]; rfl) h37
          clear hw
          have hw := hw2
          refine g_iinc (i := 3) (b := 1) (L' := [(0, _), (1, _), (2, _), (3, _)]) (by decide +kernel) rfl rfl rfl ?_
          refine g_goto (off := -41) (tgt := 8) (by decide +kernel) (by decide) ?_
          exact ih (i + 1) _ _ (by omega) (by first | rw [zbits_t hw] | rw [zbits_f hw]) (by omega) (by omega) (by omega)
        · have hw2 : (fun j => zwi (σ (b + 2)) k 12 j) i = true := by
            rw [hw]
            cases hx : zwi (σ (b + 2)) k 12 (σ (b + 2) i).toNat with
            | true => rfl
            | false => rw [zbits_bit] at h37; simp [hx] at h37
          clear hw
          have hw := hw2
          refine g_iload_n (i := 2) (by decide +kernel) rfl ?_
          refine g_iconst (a := 1) (by decide +kernel) ?_
          refine g_iload_n (i := 3) (by decide +kernel) rfl ?_
          refine g_ishl1 (by decide +kernel) (by omega) ?_
          refine g_ior (by decide +kernel) (by omega) (by omega) ?_
          refine g_istore_n (i := 2) (L' := [(0, _), (1, _), (2, _), (3, _)]) (by decide +kernel) rfl rfl ?_
          refine g_iinc (i := 3) (b := 1) (L' := [(0, _), (1, _), (2, _), (3, _)]) (by decide +kernel) rfl rfl rfl ?_
          refine g_goto (off := -41) (tgt := 8) (by decide +kernel) (by decide) ?_
          exact ih (i + 1) _ _ (by omega) (by first | rw [zbits_t hw] | rw [zbits_f hw]) (by omega) (by omega) (by omega)
theorem c_Sh_bitsWithin {G : zG} {n : Nat} {σ : zSt} {b : Nat} {k : Nat} (hn : 189 ≤ n) (hS : zSw SH b) (hg : zGood σ b) (ht : zTree σ b) (hk : k < (σ b 0).toNat) : Gm G y_Sh_bitsWithin m_Sh_bitsWithin 0 0 0 [vr G b, vi k] n SH σ (zI n SH (fun a σ' => a = (zbits (fun j => zwi (σ (b + 2)) k 12 j) (σ b 0).toNat : Int) ∧ σ' = σ)) := by
  refine g_enter (L := [(0, _), (1, _)]) (by decide) rfl rfl rfl (Nat.le_of_ble_eq_true rfl) (fun X => ?_)
  have hb := hS.1
  have hc := hg.1
  refine g_iconst (a := 1) (by decide +kernel) ?_
  refine g_iload_n (i := 1) (by decide +kernel) rfl ?_
  refine g_ishl1 (by decide +kernel) (by omega) ?_
  refine g_istore_n (i := 2) (L' := [(0, _), (1, _), (2, _)]) (by decide +kernel) rfl rfl ?_
  refine g_iload_n (i := 1) (by decide +kernel) rfl ?_
  refine g_iconst (a := 1) (by decide +kernel) ?_
  refine g_iadd (by decide +kernel) ?_
  refine g_istore_n (i := 3) (L' := [(0, _), (1, _), (2, _), (3, _)]) (by decide +kernel) rfl rfl ?_
  refine w_Sh_bitsWithin hn hS hg ht hk ((σ b 0).toNat + 1) (k + 1) _ _ (by omega) ?_ (by omega) (by omega) (by omega)
  have ar0 : ∀ q, q < (σ b 0).toNat → -1 ≤ σ (b + 2) q := fun q hq => (hg.2.1 q (by omega)).2.1.1
  have z0 : zbits (fun j => zwi (σ (b + 2)) k 12 j) k = 0 := by
    rw [zbits_congr (q := fun _ => false) (fun q hq => zwi_small ht ar0 12 q (by omega) hq)]
    clear hk
    induction k with
    | zero => rfl
    | succ k ih => rw [zbits_f rfl]; exact ih
  rw [zbits_t (by show zwi _ _ _ _ = true; rw [zwi_s, if_pos rfl]), z0]
  simp
theorem c_Sh_renumbered {G : zG} {n : Nat} {σ : zSt} {x : Int} {p : Nat → Bool} {N : Nat} (hN : N ≤ 12) (hx : -1 ≤ x ∧ x < N) : Gm G y_Sh_renumbered m_Sh_renumbered 1 0 0 [vi x, vi (zbits p N : Nat)] n SH σ (zI n SH (fun a σ' => a = (if x = -1 then -1 else x - (zcnt p x.toNat : Int)) ∧ σ' = σ)) := by
  refine g_enter (L := [(0, _), (1, _)]) (by decide) rfl rfl rfl (Nat.le_of_ble_eq_true rfl) (fun X => ?_)
  have hz := zbits_le (p := p) (show N ≤ 12 by omega)
  refine g_iload_n (i := 0) (by decide +kernel) rfl ?_
  refine g_iconst (a := -1) (by decide +kernel) ?_
  refine g_icmp_ne (off := 7) (tgt := 9) (by decide +kernel) (by decide) ⟨by omega, by omega⟩ ⟨by omega, by omega⟩ (fun h2 => ?_) (fun h2 => ?_)
  · obtain ⟨j, rfl⟩ := Int.eq_ofNat_of_zero_le (show 0 ≤ x by omega)
    have hp : 2 ^ j < 4096 := Nat.pow_lt_pow_right (by decide) (show j < 12 by omega)
    have hp1 : 0 < 2 ^ j := Nat.two_pow_pos j
    refine g_iload_n (i := 0) (by decide +kernel) rfl ?_
    refine g_iload_n (i := 1) (by decide +kernel) rfl ?_
    refine g_iconst (a := 1) (by decide +kernel) ?_
    refine g_iload_n (i := 0) (by decide +kernel) rfl ?_
    refine g_ishl1 (by decide +kernel) (by omega) ?_
    refine g_iconst (a := 1) (by decide +kernel) ?_
    refine g_isub (by decide +kernel) ?_
    refine g_eq (st' := [vi ((2 ^ j - 1 : Nat) : Int), vi ((zbits p N : Nat) : Int), vi (j : Int)]) ?_ rfl rfl (by rw [show ((2 ^ j - 1 : Nat) : Int) = ((2 ^ j : Nat) : Int) - 1 by omega])
    refine g_iand (by decide +kernel) (by omega) (by omega) ?_
    rw [zbits_and (by omega)]
    refine g_cSI (st := [vi (j : Int)]) (c_In_bitCount (zbits_le (m := 12) (by omega))) k_In_bitCount l_Sh_60 (by decide +kernel) rfl rfl (Nat.le_of_ble_eq_true rfl) (by decide) ⟨by decide, by decide⟩ ?_
    rintro a σ1 ⟨rfl, hσ⟩
    obtain rfl := hσ.symm
    refine g_isub (by decide +kernel) ?_
    refine g_retI (by decide +kernel) rfl (Or.inl rfl) ⟨by decide, by decide⟩ ?_
    first
      | exact ⟨by rw [if_pos (by omega)], rfl⟩
      | exact ⟨by rw [zpop_bits (by omega), if_neg (by omega), Int.toNat_natCast], rfl⟩
  · refine g_iconst (a := -1) (by decide +kernel) ?_
    refine g_goto (off := 15) (tgt := 21) (by decide +kernel) (by decide) ?_
    refine g_retI (by decide +kernel) rfl (Or.inl rfl) ⟨by decide, by decide⟩ ?_
    first
      | exact ⟨by rw [if_pos (by omega)], rfl⟩
      | exact ⟨by rw [zpop_bits (by omega), if_neg (by omega), Int.toNat_natCast], rfl⟩
theorem c_Sh_copyFrom {G : zG} {n : Nat} {σ : zSt} {b f : Nat} (hn : 189 ≤ n) (hS : zSw SH b) (hF : zSw SH f) (hbf : b + 10 ≤ f ∨ f + 10 ≤ b) : Gm G y_Sh_copyFrom m_Sh_copyFrom 1 0 0 [vr G b, vr G f] n SH σ (zV n SH (fun σ' => zCopy σ σ' b f)) := by
  refine g_enter (L := [(0, _), (1, _)]) (by decide) rfl rfl rfl (Nat.le_of_ble_eq_true rfl) (fun X => ?_)
  have hb := hS.1
  have hf := hF.1
  refine g_aload_n (i := 0) (by decide +kernel) rfl ?_
  refine g_aload_n (i := 1) (by decide +kernel) rfl ?_
  refine g_geti f_Sh_39 (by decide +kernel) (by omega) hF.a0 rfl ?_
  refine g_puti f_Sh_39 (by decide +kernel) (by omega) hS.a0 rfl ?_
  generalize hτ1 : zs σ b 0 (σ f 0) = τ1
  have o1 : ∀ a, a ≠ b → τ1 a = σ a := fun a ha => by rw [← hτ1]; exact zs_other ha
  have e1 : τ1 b = zu (σ b) 0 (σ f 0) := by rw [← hτ1]; exact zs_row _ _ _ _
  clear hτ1
  refine g_aload_n (i := 1) (by decide +kernel) rfl ?_
  refine g_getr f_Sh_9 (by decide +kernel) (by omega) hF.a0 rfl ?_
  refine g_iconst (a := 0) (by decide +kernel) ?_
  refine g_aload_n (i := 0) (by decide +kernel) rfl ?_
  refine g_getr f_Sh_9 (by decide +kernel) (by omega) hS.a0 rfl ?_
  refine g_iconst (a := 0) (by decide +kernel) ?_
  refine g_bipush (a := 12) (by decide +kernel) (by decide) ?_
  refine g_copy (sp := 0) (dp := 0) (c := 12) ac_l (by decide +kernel) (by omega) (by omega) hF.a1 hS.a1 rfl rfl rfl (by decide) (by decide) ⟨by decide, by decide⟩ (by decide) (by decide) ?_
  generalize hτ2 : zcp τ1 (f + 1) 0 (b + 1) 0 12 = τ2
  have o2 : ∀ a, a ≠ b + 1 → τ2 a = τ1 a := fun a ha => by rw [← hτ2]; exact zcp_other ha
  have e2 : ∀ j, j < 12 → τ2 (b + 1) j = τ1 (f + 1) j := fun j hj => by rw [← hτ2, zcp_in (by omega) (by omega)]; simp
  clear hτ2
  refine g_aload_n (i := 1) (by decide +kernel) rfl ?_
  refine g_getr f_Sh_15 (by decide +kernel) (by omega) hF.a0 rfl ?_
  refine g_iconst (a := 0) (by decide +kernel) ?_
  refine g_aload_n (i := 0) (by decide +kernel) rfl ?_
  refine g_getr f_Sh_15 (by decide +kernel) (by omega) hS.a0 rfl ?_
  refine g_iconst (a := 0) (by decide +kernel) ?_
  refine g_bipush (a := 12) (by decide +kernel) (by decide) ?_
  refine g_copy (sp := 0) (dp := 0) (c := 12) ac_l (by decide +kernel) (by omega) (by omega) hF.a2 hS.a2 rfl rfl rfl (by decide) (by decide) ⟨by decide, by decide⟩ (by decide) (by decide) ?_
  generalize hτ3 : zcp τ2 (f + 2) 0 (b + 2) 0 12 = τ3
  have o3 : ∀ a, a ≠ b + 2 → τ3 a = τ2 a := fun a ha => by rw [← hτ3]; exact zcp_other ha
  have e3 : ∀ j, j < 12 → τ3 (b + 2) j = τ2 (f + 2) j := fun j hj => by rw [← hτ3, zcp_in (by omega) (by omega)]; simp
  clear hτ3
  refine g_aload_n (i := 1) (by decide +kernel) rfl ?_
  refine g_getr f_Sh_18 (by decide +kernel) (by omega) hF.a0 rfl ?_
  refine g_iconst (a := 0) (by decide +kernel) ?_
  refine g_aload_n (i := 0) (by decide +kernel) rfl ?_
  refine g_getr f_Sh_18 (by decide +kernel) (by omega) hS.a0 rfl ?_
  refine g_iconst (a := 0) (by decide +kernel) ?_
  refine g_bipush (a := 12) (by decide +kernel) (by decide) ?_
  refine g_copy (sp := 0) (dp := 0) (c := 12) ac_l (by decide +kernel) (by omega) (by omega) hF.a3 hS.a3 rfl rfl rfl (by decide) (by decide) ⟨by decide, by decide⟩ (by decide) (by decide) ?_
  generalize hτ4 : zcp τ3 (f + 3) 0 (b + 3) 0 12 = τ4
  have o4 : ∀ a, a ≠ b + 3 → τ4 a = τ3 a := fun a ha => by rw [← hτ4]; exact zcp_other ha
  have e4 : ∀ j, j < 12 → τ4 (b + 3) j = τ3 (f + 3) j := fun j hj => by rw [← hτ4, zcp_in (by omega) (by omega)]; simp
  clear hτ4
  refine g_aload_n (i := 1) (by decide +kernel) rfl ?_
  refine g_getr f_Sh_21 (by decide +kernel) (by omega) hF.a0 rfl ?_
  refine g_iconst (a := 0) (by decide +kernel) ?_
  refine g_aload_n (i := 0) (by decide +kernel) rfl ?_
  refine g_getr f_Sh_21 (by decide +kernel) (by omega) hS.a0 rfl ?_
  refine g_iconst (a := 0) (by decide +kernel) ?_
  refine g_bipush (a := 12) (by decide +kernel) (by decide) ?_
  refine g_copy (sp := 0) (dp := 0) (c := 12) ac_l (by decide +kernel) (by omega) (by omega) hF.a4 hS.a4 rfl rfl rfl (by decide) (by decide) ⟨by decide, by decide⟩ (by decide) (by decide) ?_
  generalize hτ5 : zcp τ4 (f + 4) 0 (b + 4) 0 12 = τ5
  have o5 : ∀ a, a ≠ b + 4 → τ5 a = τ4 a := fun a ha => by rw [← hτ5]; exact zcp_other ha
  have e5 : ∀ j, j < 12 → τ5 (b + 4) j = τ4 (f + 4) j := fun j hj => by rw [← hτ5, zcp_in (by omega) (by omega)]; simp
  clear hτ5
  refine g_aload_n (i := 1) (by decide +kernel) rfl ?_
  refine g_getr f_Sh_24 (by decide +kernel) (by omega) hF.a0 rfl ?_
  refine g_iconst (a := 0) (by decide +kernel) ?_
  refine g_aload_n (i := 0) (by decide +kernel) rfl ?_
  refine g_getr f_Sh_24 (by decide +kernel) (by omega) hS.a0 rfl ?_
  refine g_iconst (a := 0) (by decide +kernel) ?_
  refine g_bipush (a := 12) (by decide +kernel) (by decide) ?_
  refine g_copy (sp := 0) (dp := 0) (c := 12) ac_l (by decide +kernel) (by omega) (by omega) hF.a5 hS.a5 rfl rfl rfl (by decide) (by decide) ⟨by decide, by decide⟩ (by decide) (by decide) ?_
  generalize hτ6 : zcp τ5 (f + 5) 0 (b + 5) 0 12 = τ6
  have o6 : ∀ a, a ≠ b + 5 → τ6 a = τ5 a := fun a ha => by rw [← hτ6]; exact zcp_other ha
  have e6 : ∀ j, j < 12 → τ6 (b + 5) j = τ5 (f + 5) j := fun j hj => by rw [← hτ6, zcp_in (by omega) (by omega)]; simp
  clear hτ6
  refine g_aload_n (i := 1) (by decide +kernel) rfl ?_
  refine g_getr f_Sh_27 (by decide +kernel) (by omega) hF.a0 rfl ?_
  refine g_iconst (a := 0) (by decide +kernel) ?_
  refine g_aload_n (i := 0) (by decide +kernel) rfl ?_
  refine g_getr f_Sh_27 (by decide +kernel) (by omega) hS.a0 rfl ?_
  refine g_iconst (a := 0) (by decide +kernel) ?_
  refine g_bipush (a := 12) (by decide +kernel) (by decide) ?_
  refine g_copy (sp := 0) (dp := 0) (c := 12) ac_l (by decide +kernel) (by omega) (by omega) hF.a6 hS.a6 rfl rfl rfl (by decide) (by decide) ⟨by decide, by decide⟩ (by decide) (by decide) ?_
  generalize hτ7 : zcp τ6 (f + 6) 0 (b + 6) 0 12 = τ7
  have o7 : ∀ a, a ≠ b + 6 → τ7 a = τ6 a := fun a ha => by rw [← hτ7]; exact zcp_other ha
  have e7 : ∀ j, j < 12 → τ7 (b + 6) j = τ6 (f + 6) j := fun j hj => by rw [← hτ7, zcp_in (by omega) (by omega)]; simp
  clear hτ7
  refine g_aload_n (i := 1) (by decide +kernel) rfl ?_
  refine g_getr f_Sh_30 (by decide +kernel) (by omega) hF.a0 rfl ?_
  refine g_iconst (a := 0) (by decide +kernel) ?_
  refine g_aload_n (i := 0) (by decide +kernel) rfl ?_
  refine g_getr f_Sh_30 (by decide +kernel) (by omega) hS.a0 rfl ?_
  refine g_iconst (a := 0) (by decide +kernel) ?_
  refine g_bipush (a := 108) (by decide +kernel) (by decide) ?_
  refine g_copy (sp := 0) (dp := 0) (c := 108) ac_l (by decide +kernel) (by omega) (by omega) hF.a7 hS.a7 rfl rfl rfl (by decide) (by decide) ⟨by decide, by decide⟩ (by decide) (by decide) ?_
  generalize hτ8 : zcp τ7 (f + 7) 0 (b + 7) 0 108 = τ8
  have o8 : ∀ a, a ≠ b + 7 → τ8 a = τ7 a := fun a ha => by rw [← hτ8]; exact zcp_other ha
  have e8 : ∀ j, j < 108 → τ8 (b + 7) j = τ7 (f + 7) j := fun j hj => by rw [← hτ8, zcp_in (by omega) (by omega)]; simp
  clear hτ8
  refine g_aload_n (i := 0) (by decide +kernel) rfl ?_
  refine g_aload_n (i := 1) (by decide +kernel) rfl ?_
  refine g_geti f_Sh_49 (by decide +kernel) (by omega) hF.a0 rfl ?_
  refine g_puti f_Sh_49 (by decide +kernel) (by omega) hS.a0 rfl ?_
  generalize hτ9 : zs τ8 b 8 (τ8 f 8) = τ9
  have o9 : ∀ a, a ≠ b → τ9 a = τ8 a := fun a ha => by rw [← hτ9]; exact zs_other ha
  have e9 : τ9 b = zu (τ8 b) 8 (τ8 f 8) := by rw [← hτ9]; exact zs_row _ _ _ _
  clear hτ9
  refine g_aload_n (i := 1) (by decide +kernel) rfl ?_
  refine g_getr f_Sh_33 (by decide +kernel) (by omega) hF.a0 rfl ?_
  refine g_iconst (a := 0) (by decide +kernel) ?_
  refine g_aload_n (i := 0) (by decide +kernel) rfl ?_
  refine g_getr f_Sh_33 (by decide +kernel) (by omega) hS.a0 rfl ?_
  refine g_iconst (a := 0) (by decide +kernel) ?_
  refine g_bipush (a := 6) (by decide +kernel) (by decide) ?_
  refine g_copy (sp := 0) (dp := 0) (c := 6) ac_l (by decide +kernel) (by omega) (by omega) hF.a8 hS.a8 rfl rfl rfl (by decide) (by decide) ⟨by decide, by decide⟩ (by decide) (by decide) ?_
  generalize hτ10 : zcp τ9 (f + 8) 0 (b + 8) 0 6 = τ10
  have o10 : ∀ a, a ≠ b + 8 → τ10 a = τ9 a := fun a ha => by rw [← hτ10]; exact zcp_other ha
  have e10 : ∀ j, j < 6 → τ10 (b + 8) j = τ9 (f + 8) j := fun j hj => by rw [← hτ10, zcp_in (by omega) (by omega)]; simp
  clear hτ10
  refine g_aload_n (i := 1) (by decide +kernel) rfl ?_
  refine g_getr f_Sh_36 (by decide +kernel) (by omega) hF.a0 rfl ?_
  refine g_iconst (a := 0) (by decide +kernel) ?_
  refine g_aload_n (i := 0) (by decide +kernel) rfl ?_
  refine g_getr f_Sh_36 (by decide +kernel) (by omega) hS.a0 rfl ?_
  refine g_iconst (a := 0) (by decide +kernel) ?_
  refine g_bipush (a := 6) (by decide +kernel) (by decide) ?_
  refine g_copy (sp := 0) (dp := 0) (c := 6) ac_l (by decide +kernel) (by omega) (by omega) hF.a9 hS.a9 rfl rfl rfl (by decide) (by decide) ⟨by decide, by decide⟩ (by decide) (by decide) ?_
  generalize hτ11 : zcp τ10 (f + 9) 0 (b + 9) 0 6 = τ11
  have o11 : ∀ a, a ≠ b + 9 → τ11 a = τ10 a := fun a ha => by rw [← hτ11]; exact zcp_other ha
  have e11 : ∀ j, j < 6 → τ11 (b + 9) j = τ10 (f + 9) j := fun j hj => by rw [← hτ11, zcp_in (by omega) (by omega)]; simp
  clear hτ11
  refine g_retV (by decide +kernel) rfl ⟨by decide, by decide⟩ ?_
  have z : ∀ a, (a < b ∨ b + 10 ≤ a) → τ11 a = σ a := fun a ha => by rw [o11 _ (by omega), o10 _ (by omega), o9 _ (by omega), o8 _ (by omega), o7 _ (by omega), o6 _ (by omega), o5 _ (by omega), o4 _ (by omega), o3 _ (by omega), o2 _ (by omega), o1 _ (by omega)]
  have y : ∀ j, τ11 b j = zu (zu (σ b) 0 (σ f 0)) 8 (σ f 8) j := fun j => by rw [o11 _ (by omega), o10 _ (by omega), e9, o8 _ (by omega), o7 _ (by omega), o6 _ (by omega), o5 _ (by omega), o4 _ (by omega), o3 _ (by omega), o2 _ (by omega), e1, show τ8 f = σ f by rw [o8 _ (by omega), o7 _ (by omega), o6 _ (by omega), o5 _ (by omega), o4 _ (by omega), o3 _ (by omega), o2 _ (by omega), o1 _ (by omega)]]
  have r1 : ∀ j, j < 12 → τ11 (b + 1) j = σ (f + 1) j := fun j hj => by rw [o11 _ (by omega), o10 _ (by omega), o9 _ (by omega), o8 _ (by omega), o7 _ (by omega), o6 _ (by omega), o5 _ (by omega), o4 _ (by omega), o3 _ (by omega), e2 j hj, o1 _ (by omega)]
  have r2 : ∀ j, j < 12 → τ11 (b + 2) j = σ (f + 2) j := fun j hj => by rw [o11 _ (by omega), o10 _ (by omega), o9 _ (by omega), o8 _ (by omega), o7 _ (by omega), o6 _ (by omega), o5 _ (by omega), o4 _ (by omega), e3 j hj, o2 _ (by omega), o1 _ (by omega)]
  have r3 : ∀ j, j < 12 → τ11 (b + 3) j = σ (f + 3) j := fun j hj => by rw [o11 _ (by omega), o10 _ (by omega), o9 _ (by omega), o8 _ (by omega), o7 _ (by omega), o6 _ (by omega), o5 _ (by omega), e4 j hj, o3 _ (by omega), o2 _ (by omega), o1 _ (by omega)]
  have r4 : ∀ j, j < 12 → τ11 (b + 4) j = σ (f + 4) j := fun j hj => by rw [o11 _ (by omega), o10 _ (by omega), o9 _ (by omega), o8 _ (by omega), o7 _ (by omega), o6 _ (by omega), e5 j hj, o4 _ (by omega), o3 _ (by omega), o2 _ (by omega), o1 _ (by omega)]
  have r5 : ∀ j, j < 12 → τ11 (b + 5) j = σ (f + 5) j := fun j hj => by rw [o11 _ (by omega), o10 _ (by omega), o9 _ (by omega), o8 _ (by omega), o7 _ (by omega), e6 j hj, o5 _ (by omega), o4 _ (by omega), o3 _ (by omega), o2 _ (by omega), o1 _ (by omega)]
  have r6 : ∀ j, j < 12 → τ11 (b + 6) j = σ (f + 6) j := fun j hj => by rw [o11 _ (by omega), o10 _ (by omega), o9 _ (by omega), o8 _ (by omega), e7 j hj, o6 _ (by omega), o5 _ (by omega), o4 _ (by omega), o3 _ (by omega), o2 _ (by omega), o1 _ (by omega)]
  have r7 : ∀ j, j < 108 → τ11 (b + 7) j = σ (f + 7) j := fun j hj => by rw [o11 _ (by omega), o10 _ (by omega), o9 _ (by omega), e8 j hj, o7 _ (by omega), o6 _ (by omega), o5 _ (by omega), o4 _ (by omega), o3 _ (by omega), o2 _ (by omega), o1 _ (by omega)]
  have r8 : ∀ j, j < 6 → τ11 (b + 8) j = σ (f + 8) j := fun j hj => by rw [o11 _ (by omega), e10 j hj, o9 _ (by omega), o8 _ (by omega), o7 _ (by omega), o6 _ (by omega), o5 _ (by omega), o4 _ (by omega), o3 _ (by omega), o2 _ (by omega), o1 _ (by omega)]
  have r9 : ∀ j, j < 6 → τ11 (b + 9) j = σ (f + 9) j := fun j hj => by rw [e11 j hj, o10 _ (by omega), o9 _ (by omega), o8 _ (by omega), o7 _ (by omega), o6 _ (by omega), o5 _ (by omega), o4 _ (by omega), o3 _ (by omega), o2 _ (by omega), o1 _ (by omega)]
  refine ⟨by rw [y, zu_ne (by decide), zu_eq], by rw [y, zu_eq], fun r h1 h2 k hk => ?_, r7, fun i hi => ⟨r8 i hi, r9 i hi⟩, z⟩
  rcases (by omega : r = 1 ∨ r = 2 ∨ r = 3 ∨ r = 4 ∨ r = 5 ∨ r = 6) with rfl | rfl | rfl | rfl | rfl | rfl
  · exact r1 k hk
  · exact r2 k hk
  · exact r3 k hk
  · exact r4 k hk
  · exact r5 k hk
  · exact r6 k hk
