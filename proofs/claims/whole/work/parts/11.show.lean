/-! THE SHOW: a Show at b holds: b 0 clips, b 8 presses; b+1 kind, b+2 around, b+3 place, b+4 how, b+5 other, b+6 much, b+7 marks, b+8 keys, b+9 times -/
def zGood (σ : zSt) (b : Nat) : Prop := (0 ≤ σ b 0 ∧ σ b 0 ≤ 12 ∧ 0 ≤ σ b 8 ∧ σ b 8 ≤ 6) ∧
  (∀ k, k < 12 → (0 ≤ σ (b + 1) k ∧ σ (b + 1) k ≤ 2) ∧ (-1 ≤ σ (b + 2) k ∧ σ (b + 2) k ≤ 11) ∧ (0 ≤ σ (b + 3) k ∧ σ (b + 3) k ≤ 12) ∧ (0 ≤ σ (b + 4) k ∧ σ (b + 4) k ≤ 3) ∧ (-1 ≤ σ (b + 5) k ∧ σ (b + 5) k ≤ 11) ∧ (0 ≤ σ (b + 6) k ∧ σ (b + 6) k ≤ 999)) ∧
  (∀ k, k < 108 → 0 ≤ σ (b + 7) k ∧ σ (b + 7) k ≤ 999) ∧ (∀ i, i < 6 → (0 ≤ σ (b + 8) i ∧ σ (b + 8) i ≤ 3) ∧ (0 ≤ σ (b + 9) i ∧ σ (b + 9) i ≤ 1999))
theorem c_Sh_has {G : zG} {n : Nat} {σ : zSt} {b : Nat} {k : Int} (hn : 189 ≤ n) (hS : zSw SH b) (hk : zr k) (hc : 0 ≤ σ b 0 ∧ σ b 0 ≤ 12) : Gm G y_Sh_has m_Sh_has 0 0 0 [vr G b, vi k] n SH σ (zI n SH (fun a σ' => a = (if 0 ≤ k ∧ k < σ b 0 then 1 else 0) ∧ σ' = σ)) := by
  refine g_enter (L := [(0, _), (1, _)]) (by decide) rfl rfl rfl (Nat.le_of_ble_eq_true rfl) (fun X => ?_)
  have hb := hS.1
  refine g_iload_n (i := 1) (by decide +kernel) rfl ?_
  refine g_if_lt (off := 15) (tgt := 16) (by decide +kernel) (by decide) ⟨by omega, by omega⟩ (fun h1 => ?_) (fun h1 => ?_)
  · refine g_iconst (a := 0) (by decide +kernel) ?_
    refine g_retI (by decide +kernel) rfl (Or.inr ⟨rfl, by omega⟩) ⟨by decide, by decide⟩ ?_
    exact ⟨by split <;> omega, rfl⟩
  · refine g_iload_n (i := 1) (by decide +kernel) rfl ?_
    refine g_aload_n (i := 0) (by decide +kernel) rfl ?_
    refine g_geti f_Sh_39 (by decide +kernel) (by omega) hS.a0 rfl ?_
    refine g_icmp_ge (off := 7) (tgt := 16) (by decide +kernel) (by decide) ⟨by omega, by omega⟩ ⟨by omega, by omega⟩ (fun h9 => ?_) (fun h9 => ?_)
    · refine g_iconst (a := 0) (by decide +kernel) ?_
      refine g_retI (by decide +kernel) rfl (Or.inr ⟨rfl, by omega⟩) ⟨by decide, by decide⟩ ?_
      exact ⟨by split <;> omega, rfl⟩
    · refine g_iconst (a := 1) (by decide +kernel) ?_
      refine g_goto (off := 4) (tgt := 17) (by decide +kernel) (by decide) ?_
      refine g_retI (by decide +kernel) rfl (Or.inr ⟨rfl, by omega⟩) ⟨by decide, by decide⟩ ?_
      exact ⟨by split <;> omega, rfl⟩
theorem c_Sh_markOf {G : zG} {n : Nat} {σ : zSt} {b : Nat} {k w : Nat} (hn : 189 ≤ n) (hS : zSw SH b) (hk : k < 12) (hw : w < 9) : Gm G y_Sh_markOf m_Sh_markOf 0 0 0 [vr G b, vi k, vi w] n SH σ (zI n SH (fun a σ' => a = σ (b + 7) (9 * k + w) ∧ σ' = σ)) := by
  refine g_enter (L := [(0, _), (1, _), (2, _)]) (by decide) rfl rfl rfl (Nat.le_of_ble_eq_true rfl) (fun X => ?_)
  have hb := hS.1
  refine g_aload_n (i := 0) (by decide +kernel) rfl ?_
  refine g_getr f_Sh_30 (by decide +kernel) (by omega) hS.a0 rfl ?_
  refine g_iload_n (i := 1) (by decide +kernel) rfl ?_
  refine g_bipush (a := 9) (by decide +kernel) (by decide) ?_
  refine g_imul (by decide +kernel) ?_
  refine g_iload_n (i := 2) (by decide +kernel) rfl ?_
  refine g_iadd (by decide +kernel) ?_
  refine g_iald (j := 9 * k + w) (by decide +kernel) (by omega) hS.a7 (by omega) (by omega) (by decide) ?_
  refine g_retI (by decide +kernel) rfl (Or.inl rfl) ⟨by decide, by decide⟩ ?_
  exact ⟨rfl, rfl⟩
theorem w_Sh_howManyIn {G : zG} {X : zX} {n : Nat} {σ : zSt} {b : Nat} {k : Int} (hn : 189 ≤ n) (hS : zSw SH b) (hg : zGood σ b) (hk : zr k) : ∀ (m : Nat) (i : Nat) (x2 x3 : Int), x3 = (i : Int) → x2 = (zcnt (fun j => decide (σ (b + 2) j = k)) i : Int) → i ≤ (σ b 0).toNat → (σ b 0).toNat < i + m → Go G X m_Sh_howManyIn (0, 0, 0, 0, 0) n SH σ 4 [(0, vr G b), (1, vi k), (2, vi x2), (3, vi x3)] [] (zI n SH (fun a σ' => a = (zcnt (fun j => decide (σ (b + 2) j = k)) (σ b 0).toNat : Int) ∧ σ' = σ)) := by
  intro m
  induction m with
  | zero => intro i x2 x3 e3 e2 hi hm; exact absurd hm (by omega)
  | succ m ih =>
    intro i x2 x3 e3 e2 hi hm
    have hb := hS.1
    have hc := hg.1
    have hz := zcnt_le (fun j => decide (σ (b + 2) j = k)) i
    refine g_iload_n (i := 3) (by decide +kernel) rfl ?_
    refine g_aload_n (i := 0) (by decide +kernel) rfl ?_
    refine g_geti f_Sh_39 (by decide +kernel) (by omega) hS.a0 rfl ?_
    refine g_icmp_ge (off := 22) (tgt := 31) (by decide +kernel) (by decide) ⟨by omega, by omega⟩ ⟨by omega, by omega⟩ (fun h9 => ?_) (fun h9 => ?_)
    · refine g_iload_n (i := 2) (by decide +kernel) rfl ?_
      refine g_retI (by decide +kernel) rfl (Or.inl rfl) ⟨by decide, by decide⟩ ?_
      exact ⟨by rw [e2, show i = (σ b 0).toNat by omega], rfl⟩
    · have hk2 := hg.2.1 i (by omega)
      refine g_aload_n (i := 0) (by decide +kernel) rfl ?_
      refine g_getr f_Sh_15 (by decide +kernel) (by omega) hS.a0 rfl ?_
      refine g_iload_n (i := 3) (by decide +kernel) rfl ?_
      refine g_iald (j := i) (by decide +kernel) (by omega) hS.a2 e3 (by omega) (by decide) ?_
      refine g_iload_n (i := 1) (by decide +kernel) rfl ?_
      refine g_icmp_ne (off := 6) (tgt := 25) (by decide +kernel) (by decide) ⟨by omega, by omega⟩ ⟨by omega, by omega⟩ (fun h19 => ?_) (fun h19 => ?_)
      · refine g_iinc (i := 3) (b := 1) (L' := [(0, _), (1, _), (2, _), (3, _)]) (by decide +kernel) rfl rfl rfl ?_
        refine g_goto (off := -24) (tgt := 4) (by decide +kernel) (by decide) ?_
        exact ih (i + 1) _ _ (by omega) (by first | (rw [zcnt_t (by simp; omega)]; push_cast; omega) | (rw [zcnt_f (by simp; omega)]; omega)) (by omega) (by omega)
      · refine g_iinc (i := 2) (b := 1) (L' := [(0, _), (1, _), (2, _), (3, _)]) (by decide +kernel) rfl rfl rfl ?_
        refine g_iinc (i := 3) (b := 1) (L' := [(0, _), (1, _), (2, _), (3, _)]) (by decide +kernel) rfl rfl rfl ?_
        refine g_goto (off := -24) (tgt := 4) (by decide +kernel) (by decide) ?_
        exact ih (i + 1) _ _ (by omega) (by first | (rw [zcnt_t (by simp; omega)]; push_cast; omega) | (rw [zcnt_f (by simp; omega)]; omega)) (by omega) (by omega)
theorem c_Sh_howManyIn {G : zG} {n : Nat} {σ : zSt} {b : Nat} {k : Int} (hn : 189 ≤ n) (hS : zSw SH b) (hg : zGood σ b) (hk : zr k) : Gm G y_Sh_howManyIn m_Sh_howManyIn 0 0 0 [vr G b, vi k] n SH σ (zI n SH (fun a σ' => a = (zcnt (fun j => decide (σ (b + 2) j = k)) (σ b 0).toNat : Int) ∧ σ' = σ)) := by
  refine g_enter (L := [(0, _), (1, _)]) (by decide) rfl rfl rfl (Nat.le_of_ble_eq_true rfl) (fun X => ?_)
  refine g_iconst (a := 0) (by decide +kernel) ?_
  refine g_istore_n (i := 2) (L' := [(0, _), (1, _), (2, _)]) (by decide +kernel) rfl rfl ?_
  refine g_iconst (a := 0) (by decide +kernel) ?_
  refine g_istore_n (i := 3) (L' := [(0, _), (1, _), (2, _), (3, _)]) (by decide +kernel) rfl rfl ?_
  exact w_Sh_howManyIn hn hS hg hk ((σ b 0).toNat + 1) 0 _ _ rfl rfl (by omega) (by omega)
theorem w_Sh_childAt {G : zG} {X : zX} {n : Nat} {σ : zSt} {b : Nat} {k p : Int} (hn : 189 ≤ n) (hS : zSw SH b) (hg : zGood σ b) (hk : zr k) (hp : zr p) : ∀ (m : Nat) (i : Nat) (x3 : Int), x3 = (i : Int) → (∀ j, j < i → (fun j => decide (σ (b + 2) j = k ∧ σ (b + 3) j = p)) j = false) → i ≤ (σ b 0).toNat → (σ b 0).toNat < i + m → Go G X m_Sh_childAt (0, 0, 0, 0, 0) n SH σ 2 [(0, vr G b), (1, vi k), (2, vi p), (3, vi x3)] [] (zI n SH (fun a σ' => a = zfst (fun j => decide (σ (b + 2) j = k ∧ σ (b + 3) j = p)) (σ b 0).toNat ∧ σ' = σ)) := by
  intro m
  induction m with
  | zero => intro i x3 e3 e2 hi hm; exact absurd hm (by omega)
  | succ m ih =>
    intro i x3 e3 e2 hi hm
    have hb := hS.1
    have hc := hg.1
    refine g_iload_n (i := 3) (by decide +kernel) rfl ?_
    refine g_aload_n (i := 0) (by decide +kernel) rfl ?_
    refine g_geti f_Sh_39 (by decide +kernel) (by omega) hS.a0 rfl ?_
    refine g_icmp_ge (off := 31) (tgt := 38) (by decide +kernel) (by decide) ⟨by omega, by omega⟩ ⟨by omega, by omega⟩ (fun h7 => ?_) (fun h7 => ?_)
    · refine g_iconst (a := -1) (by decide +kernel) ?_
      refine g_retI (by decide +kernel) rfl (Or.inl rfl) ⟨by decide, by decide⟩ ?_
      exact ⟨by rw [zfst_none (fun j hj => e2 j (by omega))], rfl⟩
    · have hk2 := hg.2.1 i (by omega)
      refine g_aload_n (i := 0) (by decide +kernel) rfl ?_
      refine g_getr f_Sh_15 (by decide +kernel) (by omega) hS.a0 rfl ?_
      refine g_iload_n (i := 3) (by decide +kernel) rfl ?_
      refine g_iald (j := i) (by decide +kernel) (by omega) hS.a2 e3 (by omega) (by decide) ?_
      refine g_iload_n (i := 1) (by decide +kernel) rfl ?_
      refine g_icmp_ne (off := 15) (tgt := 32) (by decide +kernel) (by decide) ⟨by omega, by omega⟩ ⟨by omega, by omega⟩ (fun h17 => ?_) (fun h17 => ?_)
      · refine g_iinc (i := 3) (b := 1) (L' := [(0, _), (1, _), (2, _), (3, _)]) (by decide +kernel) rfl rfl rfl ?_
        refine g_goto (off := -33) (tgt := 2) (by decide +kernel) (by decide) ?_
        exact ih (i + 1) _ (by omega) (fun j hj => by
          rcases Nat.lt_or_ge j i with q | q
          · exact e2 j q
          · rw [show j = i by omega]; simp; omega) (by omega) (by omega)
      · refine g_aload_n (i := 0) (by decide +kernel) rfl ?_
        refine g_getr f_Sh_18 (by decide +kernel) (by omega) hS.a0 rfl ?_
        refine g_iload_n (i := 3) (by decide +kernel) rfl ?_
        refine g_iald (j := i) (by decide +kernel) (by omega) hS.a3 e3 (by omega) (by decide) ?_
        refine g_iload_n (i := 2) (by decide +kernel) rfl ?_
        refine g_icmp_ne (off := 5) (tgt := 32) (by decide +kernel) (by decide) ⟨by omega, by omega⟩ ⟨by omega, by omega⟩ (fun h27 => ?_) (fun h27 => ?_)
        · refine g_iinc (i := 3) (b := 1) (L' := [(0, _), (1, _), (2, _), (3, _)]) (by decide +kernel) rfl rfl rfl ?_
          refine g_goto (off := -33) (tgt := 2) (by decide +kernel) (by decide) ?_
          exact ih (i + 1) _ (by omega) (fun j hj => by
            rcases Nat.lt_or_ge j i with q | q
            · exact e2 j q
            · rw [show j = i by omega]; simp; omega) (by omega) (by omega)
        · refine g_iload_n (i := 3) (by decide +kernel) rfl ?_
          refine g_retI (by decide +kernel) rfl (Or.inl rfl) ⟨by decide, by decide⟩ ?_
          exact ⟨by rw [zfst_at e2 (by simp; omega) (show i < (σ b 0).toNat by omega)]; omega, rfl⟩
theorem c_Sh_childAt {G : zG} {n : Nat} {σ : zSt} {b : Nat} {k p : Int} (hn : 189 ≤ n) (hS : zSw SH b) (hg : zGood σ b) (hk : zr k) (hp : zr p) : Gm G y_Sh_childAt m_Sh_childAt 0 0 0 [vr G b, vi k, vi p] n SH σ (zI n SH (fun a σ' => a = zfst (fun j => decide (σ (b + 2) j = k ∧ σ (b + 3) j = p)) (σ b 0).toNat ∧ σ' = σ)) := by
  refine g_enter (L := [(0, _), (1, _), (2, _)]) (by decide) rfl rfl rfl (Nat.le_of_ble_eq_true rfl) (fun X => ?_)
  refine g_iconst (a := 0) (by decide +kernel) ?_
  refine g_istore_n (i := 3) (L' := [(0, _), (1, _), (2, _), (3, _)]) (by decide +kernel) rfl rfl ?_
  exact w_Sh_childAt hn hS hg hk hp ((σ b 0).toNat + 1) 0 _ rfl (fun j hj => by omega) (by omega) (by omega)
