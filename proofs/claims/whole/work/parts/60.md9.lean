/-! THE REFERENCE'S ANSWERS -/
/-- what an asking leaves -/
def zMF (σ τ : zSt) : Prop := (∀ a, (a < 189 ∨ a = 190 ∨ (196 ≤ a ∧ a ≤ 201) ∨ 216 ≤ a) → τ a = σ a) ∧ ∀ j, (j = 1 ∨ j = 4 ∨ j = 11 ∨ j = 12 ∨ j = 13 ∨ j = 49) → τ 189 j = σ 189 j
def zRM (σ σ' : zSt) (a w v : Int) : Prop := zMF σ σ' ∧ σ' 189 2 = w ∧ a = (if w = 0 then v else -1)
section MF
variable {σ τ υ : zSt} {a w v : Int}
theorem zMF.rf (σ : zSt) : zMF σ σ := ⟨fun _ _ => rfl, fun _ _ => rfl⟩
theorem zMF.tr (h : zMF σ τ) (g : zMF τ υ) : zMF σ υ := ⟨fun a ha => (g.1 a ha).trans (h.1 a ha), fun j hj => (g.2 j hj).trans (h.2 j hj)⟩
theorem zMF.of (h : zMF σ τ) (g : ∀ a, (a < 191 ∨ (195 < a ∧ a < 202) ∨ 215 < a) → υ a = τ a) : zMF σ υ := h.tr ⟨fun a ha => g a (by omega), fun j _ => by rw [g 189 (by omega)]⟩
theorem zMF.put {j : Nat} (h : zMF σ τ) (hj : ¬ (j = 1 ∨ j = 4 ∨ j = 11 ∨ j = 12 ∨ j = 13 ∨ j = 49)) : zMF σ (zs τ 189 j v) := h.tr ⟨fun a ha => zs_other (by omega), fun i hi => zs_ne (fun y => hj (by rw [← y.2]; exact hi))⟩
theorem zRM.no (h : zMF σ τ) (hw : w ≠ 0) (e : τ 189 2 = w) : zRM σ τ (-1) w v := ⟨h, e, by rw [if_neg hw]⟩
theorem zRM.ref (h : zMF σ τ) {c : Int} (hw : w = c) (hc : c ≠ 0) : zRM σ (zs τ 189 2 c) (-1) w v := ⟨h.put (by decide), by rw [zs_eq]; exact hw.symm, by rw [if_neg (by rw [hw]; exact hc)]⟩
theorem zRM.ok (h : zMF σ τ) (hw : w = 0) (e : τ 189 2 = 0) (ha : a = v) : zRM σ τ a w v := ⟨h, by rw [e]; exact hw.symm, by rw [if_pos hw]; exact ha⟩
end MF
theorem zS6 {τ S : zSt} {t : Int} {N k : Nat} (h : zSo2 τ S 6 t N) (hk : k < N) : τ 202 (72 + k) = zv S t 1 k ∧ τ 203 (72 + k) = zv S t 2 k ∧ τ 204 (72 + k) = zv S t 3 k ∧ τ 205 (72 + k) = zv S t 4 k ∧ τ 206 (72 + k) = zv S t 6 k := h k hk
theorem zS7 {τ S : zSt} {t : Int} {N k : Nat} (h : zSo2 τ S 7 t N) (hk : k < N) : τ 202 (84 + k) = zv S t 1 k ∧ τ 203 (84 + k) = zv S t 2 k ∧ τ 204 (84 + k) = zv S t 3 k ∧ τ 205 (84 + k) = zv S t 4 k ∧ τ 206 (84 + k) = zv S t 6 k := h k hk
theorem c_Md_stateOf {G : zG} {n : Nat} {σ : zSt} {k : Nat} (hn : 220 ≤ n) (hk : k < 12) : Gm G y_Md_stateOf m_Md_stateOf 0 0 0 [vr G 189, vi (k : Int)] n SH σ (zI n SH (fun a σ' => a = σ 202 (72 + k) ∧ σ' = σ)) := by
  refine g_enter (L := [(0, _), (1, _)]) (by decide) rfl rfl rfl (Nat.le_of_ble_eq_true rfl) (fun X => ?_)
  refine g_aload_n (i := 0) (by decide +kernel) rfl ?_
  refine g_getr f_Md_88 (by decide +kernel) (by omega) rfl rfl ?_
  refine g_bipush (a := 72) (by decide +kernel) (by decide) ?_
  refine g_iload_n (i := 1) (by decide +kernel) rfl ?_
  refine g_iadd (by decide +kernel) ?_
  refine g_iald (j := (72 + k)) (by decide +kernel) (by omega) rfl (by omega) (by omega) (by decide) ?_
  refine g_retI (by decide +kernel) rfl (Or.inl rfl) ⟨by decide, by decide⟩ ?_
  exact ⟨rfl, rfl⟩
theorem c_Md_localOf {G : zG} {n : Nat} {σ : zSt} {k : Nat} (hn : 220 ≤ n) (hk : k < 12) : Gm G y_Md_localOf m_Md_localOf 0 0 0 [vr G 189, vi (k : Int)] n SH σ (zL n SH (fun a σ' => a = σ 203 (72 + k) ∧ σ' = σ)) := by
  refine g_enter (L := [(0, _), (1, _)]) (by decide) rfl rfl rfl (Nat.le_of_ble_eq_true rfl) (fun X => ?_)
  refine g_aload_n (i := 0) (by decide +kernel) rfl ?_
  refine g_getr f_Md_91 (by decide +kernel) (by omega) rfl rfl ?_
  refine g_bipush (a := 72) (by decide +kernel) (by decide) ?_
  refine g_iload_n (i := 1) (by decide +kernel) rfl ?_
  refine g_iadd (by decide +kernel) ?_
  refine g_lald (j := (72 + k)) (by decide +kernel) (by omega) rfl (by omega) (by omega) (by decide) ?_
  refine g_retL (by decide +kernel) rfl ⟨by decide, by decide⟩ ?_
  exact ⟨rfl, rfl⟩
theorem c_Md_plays {G : zG} {n : Nat} {σ : zSt} {k : Nat} (hn : 220 ≤ n) (hk : k < 12) (hr : zr (σ 202 (72 + k))) : Gm G y_Md_plays m_Md_plays 0 0 0 [vr G 189, vi (k : Int)] n SH σ (zI n SH (fun a σ' => a = (if σ 202 (72 + k) = 2 then 1 else 0) ∧ σ' = σ)) := by
  refine g_enter (L := [(0, _), (1, _)]) (by decide) rfl rfl rfl (Nat.le_of_ble_eq_true rfl) (fun X => ?_)
  refine g_aload_n (i := 0) (by decide +kernel) rfl ?_
  refine g_getr f_Md_88 (by decide +kernel) (by omega) rfl rfl ?_
  refine g_bipush (a := 72) (by decide +kernel) (by decide) ?_
  refine g_iload_n (i := 1) (by decide +kernel) rfl ?_
  refine g_iadd (by decide +kernel) ?_
  refine g_iald (j := (72 + k)) (by decide +kernel) (by omega) rfl (by omega) (by omega) (by decide) ?_
  refine g_iconst (a := 2) (by decide +kernel) ?_
  refine g_icmp_ne (off := 7) (tgt := 17) (by decide +kernel) (by decide) hr ⟨by decide, by decide⟩ (fun h10 => ?_) (fun h10 => ?_)
  · refine g_iconst (a := 0) (by decide +kernel) ?_
    refine g_retI (by decide +kernel) rfl (Or.inr ⟨rfl, by omega⟩) ⟨by decide, by decide⟩ ?_
    exact ⟨by split <;> omega, rfl⟩
  · refine g_iconst (a := 1) (by decide +kernel) ?_
    refine g_goto (off := 4) (tgt := 18) (by decide +kernel) (by decide) ?_
    refine g_retI (by decide +kernel) rfl (Or.inr ⟨rfl, by omega⟩) ⟨by decide, by decide⟩ ?_
    exact ⟨by split <;> omega, rfl⟩
theorem w_Md_opensMany {G : zG} {X : zX} {n : Nat} {σ : zSt} {S : zSt} (hn : 220 ≤ n) (hS : zMc σ S) (hl : zLdA σ S)  : ∀ (m : Nat) (i : Nat) (x1 x2 : Int), x2 = (i : Int) → x1 = (zcnt (fun j => zOk S j) i : Int) → i ≤ zN S → zN S < i + m → Go G X m_Md_opensMany (1, 0, 0, 0, 0) n SH σ 4 [(0, vr G 189), (1, vi x1), (2, vi x2)] [] (zI n SH (fun a σ' => a = (zcnt (fun j => zOk S j) (zN S) : Int) ∧ σ' = σ)) := by
  intro m
  induction m with
  | zero => intro i x1 x2 e2 e1 hi hm; exact absurd hm (by omega)
  | succ m ih =>
    intro i x1 x2 e2 e1 hi hm
    have e0 := hS.n
    have e8 := hS.p
    have hN := hS.N
    have hz : zN S = (S 0 0).toNat := rfl
    subst e2
    have zl := zcnt_le (fun j => zOk S j) i
    refine g_iload_n (i := 2) (by decide +kernel) rfl ?_
    refine g_aload_n (i := 0) (by decide +kernel) rfl ?_
    refine g_cVI (st := _) (c_Md_clips hn) k_Md_clips l_Md_148 (by decide +kernel) (by omega) rfl rfl rfl rfl (Nat.le_of_ble_eq_true rfl) (by decide) ⟨by decide, by decide⟩ ?_
    rintro a0 σ9 ⟨ea0, hσ9⟩
    obtain rfl := hσ9.symm
    subst ea0
    refine g_icmp_ge (off := 26) (tgt := 35) (by decide +kernel) (by decide) ⟨by omega, by omega⟩ ⟨by omega, by omega⟩ (fun h9 => ?_) (fun h9 => ?_)
    · refine g_iload_n (i := 1) (by decide +kernel) rfl ?_
      refine g_retI (by decide +kernel) rfl (Or.inl rfl) ⟨by decide, by decide⟩ ?_
      exact ⟨by rw [e1, show i = zN S by omega], rfl⟩
    · have kl := hl i (by omega)
      refine g_iload_n (i := 1) (by decide +kernel) rfl ?_
      refine g_aload_n (i := 0) (by decide +kernel) rfl ?_
      refine g_getr f_Md_23 (by decide +kernel) (by omega) rfl rfl ?_
      refine g_iload_n (i := 2) (by decide +kernel) rfl ?_
      refine g_zald (j := i) (by decide +kernel) (by omega) rfl (by omega) (by omega) (by decide) ?_
      refine g_if_eq (off := 7) (tgt := 26) (by decide +kernel) (by decide) ⟨by rw [kl.2.2.2]; split <;> decide, by rw [kl.2.2.2]; split <;> decide⟩ (fun h19 => ?_) (fun h19 => ?_)
      · refine g_iconst (a := 0) (by decide +kernel) ?_
        refine g_iadd (by decide +kernel) ?_
        refine g_istore_n (i := 1) (L' := [(0, _), (1, _), (2, _)]) (by decide +kernel) rfl rfl ?_
        refine g_iinc (i := 2) (b := 1) (L' := [(0, _), (1, _), (2, _)]) (by decide +kernel) rfl rfl rfl ?_
        refine g_goto (off := -28) (tgt := 4) (by decide +kernel) (by decide) ?_
        refine ih (i + 1) _ _ (by omega) ?_ (by omega) (by omega)
        cases e : zOk S i with
        | true =>
          have q : (if zOk S i = true then (1 : Int) else 0) = 1 := by rw [e]; rfl
          rw [zcnt_t (p := fun j => zOk S j) e]
          push_cast
          rw [kl.2.2.2, q] at h19
          omega
        | false =>
          have q : (if zOk S i = true then (1 : Int) else 0) = 0 := by rw [e]; rfl
          rw [zcnt_f (p := fun j => zOk S j) e]
          rw [kl.2.2.2, q] at h19
          omega
      · refine g_iconst (a := 1) (by decide +kernel) ?_
        refine g_goto (off := 4) (tgt := 27) (by decide +kernel) (by decide) ?_
        refine g_iadd (by decide +kernel) ?_
        refine g_istore_n (i := 1) (L' := [(0, _), (1, _), (2, _)]) (by decide +kernel) rfl rfl ?_
        refine g_iinc (i := 2) (b := 1) (L' := [(0, _), (1, _), (2, _)]) (by decide +kernel) rfl rfl rfl ?_
        refine g_goto (off := -28) (tgt := 4) (by decide +kernel) (by decide) ?_
        refine ih (i + 1) _ _ (by omega) ?_ (by omega) (by omega)
        cases e : zOk S i with
        | true =>
          have q : (if zOk S i = true then (1 : Int) else 0) = 1 := by rw [e]; rfl
          rw [zcnt_t (p := fun j => zOk S j) e]
          push_cast
          rw [kl.2.2.2, q] at h19
          omega
        | false =>
          have q : (if zOk S i = true then (1 : Int) else 0) = 0 := by rw [e]; rfl
          rw [zcnt_f (p := fun j => zOk S j) e]
          rw [kl.2.2.2, q] at h19
          omega
theorem c_Md_opensMany {G : zG} {n : Nat} {σ : zSt} {S : zSt} (hn : 220 ≤ n) (hS : zMc σ S) (hl : zLdA σ S)  : Gm G y_Md_opensMany m_Md_opensMany 1 0 0 [vr G 189] n SH σ (zI n SH (fun a σ' => a = (zcnt (fun j => zOk S j) (zN S) : Int) ∧ σ' = σ)) := by
  refine g_enter (L := [(0, _)]) (by decide) rfl rfl rfl (Nat.le_of_ble_eq_true rfl) (fun X => ?_)
  refine g_iconst (a := 0) (by decide +kernel) ?_
  refine g_istore_n (i := 1) (L' := [(0, _), (1, _)]) (by decide +kernel) rfl rfl ?_
  refine g_iconst (a := 0) (by decide +kernel) ?_
  refine g_istore_n (i := 2) (L' := [(0, _), (1, _), (2, _)]) (by decide +kernel) rfl rfl ?_
  exact w_Md_opensMany hn hS hl (zN S + 1) 0 _ _ rfl rfl (by omega) (by omega)
theorem w_Md_leaves {G : zG} {X : zX} {n : Nat} {σ : zSt} {S : zSt} (hn : 220 ≤ n) (hS : zMc σ S)  : ∀ (m : Nat) (i : Nat) (x1 x2 : Int), x2 = (i : Int) → x1 = (zcnt (fun j => decide (S 1 j = 0)) i : Int) → i ≤ zN S → zN S < i + m → Go G X m_Md_leaves (1, 0, 0, 0, 0) n SH σ 4 [(0, vr G 189), (1, vi x1), (2, vi x2)] [] (zI n SH (fun a σ' => a = (zcnt (fun j => decide (S 1 j = 0)) (zN S) : Int) ∧ σ' = σ)) := by
  intro m
  induction m with
  | zero => intro i x1 x2 e2 e1 hi hm; exact absurd hm (by omega)
  | succ m ih =>
    intro i x1 x2 e2 e1 hi hm
    have e0 := hS.n
    have e8 := hS.p
    have hN := hS.N
    have hz : zN S = (S 0 0).toNat := rfl
    subst e2
    have zl := zcnt_le (fun j => decide (S 1 j = 0)) i
    refine g_iload_n (i := 2) (by decide +kernel) rfl ?_
    refine g_aload_n (i := 0) (by decide +kernel) rfl ?_
    refine g_cVI (st := _) (c_Md_clips hn) k_Md_clips l_Md_148 (by decide +kernel) (by omega) rfl rfl rfl rfl (Nat.le_of_ble_eq_true rfl) (by decide) ⟨by decide, by decide⟩ ?_
    rintro a0 σ9 ⟨ea0, hσ9⟩
    obtain rfl := hσ9.symm
    subst ea0
    refine g_icmp_ge (off := 25) (tgt := 34) (by decide +kernel) (by decide) ⟨by omega, by omega⟩ ⟨by omega, by omega⟩ (fun h9 => ?_) (fun h9 => ?_)
    · refine g_iload_n (i := 1) (by decide +kernel) rfl ?_
      refine g_retI (by decide +kernel) rfl (Or.inl rfl) ⟨by decide, by decide⟩ ?_
      exact ⟨by rw [e1, show i = zN S by omega], rfl⟩
    · have kl := hS.kd (show i < zN S by omega)
      have kr := hS.rg (show i < 12 by omega)
      refine g_iload_n (i := 1) (by decide +kernel) rfl ?_
      refine g_aload_n (i := 0) (by decide +kernel) rfl ?_
      refine g_iload_n (i := 2) (by decide +kernel) rfl ?_
      refine g_cVI (st := _) (c_Md_kind (k := i) hn (by omega)) k_Md_kind l_Md_182 (by decide +kernel) (by omega) rfl rfl rfl rfl (Nat.le_of_ble_eq_true rfl) (by decide) ⟨by decide, by decide⟩ ?_
      rintro a9 σ9 ⟨ea9, hσ9⟩
      obtain rfl := hσ9.symm
      subst ea9
      refine g_if_ne (off := 7) (tgt := 25) (by decide +kernel) (by decide) ⟨by omega, by omega⟩ (fun h18 => ?_) (fun h18 => ?_)
      · refine g_iconst (a := 0) (by decide +kernel) ?_
        refine g_iadd (by decide +kernel) ?_
        refine g_istore_n (i := 1) (L' := [(0, _), (1, _), (2, _)]) (by decide +kernel) rfl rfl ?_
        refine g_iinc (i := 2) (b := 1) (L' := [(0, _), (1, _), (2, _)]) (by decide +kernel) rfl rfl rfl ?_
        refine g_goto (off := -27) (tgt := 4) (by decide +kernel) (by decide) ?_
        exact ih (i + 1) _ _ (by omega) (by first | (rw [zcnt_t (by simp; omega)]; push_cast; omega) | (rw [zcnt_f (by simp; omega)]; omega)) (by omega) (by omega)
      · refine g_iconst (a := 1) (by decide +kernel) ?_
        refine g_goto (off := 4) (tgt := 26) (by decide +kernel) (by decide) ?_
        refine g_iadd (by decide +kernel) ?_
        refine g_istore_n (i := 1) (L' := [(0, _), (1, _), (2, _)]) (by decide +kernel) rfl rfl ?_
        refine g_iinc (i := 2) (b := 1) (L' := [(0, _), (1, _), (2, _)]) (by decide +kernel) rfl rfl rfl ?_
        refine g_goto (off := -27) (tgt := 4) (by decide +kernel) (by decide) ?_
        exact ih (i + 1) _ _ (by omega) (by first | (rw [zcnt_t (by simp; omega)]; push_cast; omega) | (rw [zcnt_f (by simp; omega)]; omega)) (by omega) (by omega)
theorem c_Md_leaves {G : zG} {n : Nat} {σ : zSt} {S : zSt} (hn : 220 ≤ n) (hS : zMc σ S)  : Gm G y_Md_leaves m_Md_leaves 1 0 0 [vr G 189] n SH σ (zI n SH (fun a σ' => a = (zcnt (fun j => decide (S 1 j = 0)) (zN S) : Int) ∧ σ' = σ)) := by
  refine g_enter (L := [(0, _)]) (by decide) rfl rfl rfl (Nat.le_of_ble_eq_true rfl) (fun X => ?_)
  refine g_iconst (a := 0) (by decide +kernel) ?_
  refine g_istore_n (i := 1) (L' := [(0, _), (1, _)]) (by decide +kernel) rfl rfl ?_
  refine g_iconst (a := 0) (by decide +kernel) ?_
  refine g_istore_n (i := 2) (L' := [(0, _), (1, _), (2, _)]) (by decide +kernel) rfl rfl ?_
  exact w_Md_leaves hn hS (zN S + 1) 0 _ _ rfl rfl (by omega) (by omega)
theorem w_Md_setOf {G : zG} {X : zX} {n : Nat} {σ : zSt} {S : zSt} {t x : Int} (hn : 220 ≤ n) (hM : zMz S) (hS : zMc σ S) (h6 : zSo2 σ S 6 t (zN S)) (hx : x = 2 ∨ x = 3)  : ∀ (m : Nat) (i : Nat) (x2 x3 : Int), x3 = (i : Int) → x2 = (zbits (fun j => decide (zv S t 1 j = x)) i : Int) → i ≤ zN S → zN S < i + m → Go G X m_Md_setOf (1, 0, 0, 0, 0) n SH σ 4 [(0, vr G 189), (1, vi x), (2, vi x2), (3, vi x3)] [] (zI n SH (fun a σ' => a = (zset S t x : Int) ∧ σ' = σ)) := by
  intro m
  induction m with
  | zero => intro i x2 x3 e3 e2 hi hm; exact absurd hm (by omega)
  | succ m ih =>
    intro i x2 x3 e3 e2 hi hm
    have e0 := hS.n
    have e8 := hS.p
    have hN := hS.N
    have hz : zN S = (S 0 0).toNat := rfl
    subst e3 e2
    have zb : zbits (fun j => decide (zv S t 1 j = x)) i < 2 ^ 12 := zbits_le (by omega)
    refine g_iload_n (i := 3) (by decide +kernel) rfl ?_
    refine g_aload_n (i := 0) (by decide +kernel) rfl ?_
    refine g_cVI (st := _) (c_Md_clips hn) k_Md_clips l_Md_148 (by decide +kernel) (by omega) rfl rfl rfl rfl (Nat.le_of_ble_eq_true rfl) (by decide) ⟨by decide, by decide⟩ ?_
    rintro a0 σ9 ⟨ea0, hσ9⟩
    obtain rfl := hσ9.symm
    subst ea0
    refine g_icmp_ge (off := 28) (tgt := 37) (by decide +kernel) (by decide) ⟨by omega, by omega⟩ ⟨by omega, by omega⟩ (fun h9 => ?_) (fun h9 => ?_)
    · refine g_iload_n (i := 2) (by decide +kernel) rfl ?_
      refine g_retI (by decide +kernel) rfl (Or.inl rfl) ⟨by decide, by decide⟩ ?_
      exact ⟨by unfold zset; rw [show i = zN S by omega], rfl⟩
    · have kl := zS6 h6 (show i < zN S by omega)
      have ks := zv_st (t := t) hM (show i < zN S by omega)
      refine g_iload_n (i := 2) (by decide +kernel) rfl ?_
      refine g_aload_n (i := 0) (by decide +kernel) rfl ?_
      refine g_iload_n (i := 3) (by decide +kernel) rfl ?_
      refine g_cVI (st := _) (c_Md_stateOf (k := i) hn (by omega)) k_Md_stateOf l_Md_393 (by decide +kernel) (by omega) rfl rfl rfl rfl (Nat.le_of_ble_eq_true rfl) (by decide) ⟨by decide, by decide⟩ ?_
      rintro a9 σ9 ⟨ea9, hσ9⟩
      obtain rfl := hσ9.symm
      rw [kl.1] at ea9
      subst ea9
      refine g_iload_n (i := 1) (by decide +kernel) rfl ?_
      refine g_icmp_ne (off := 9) (tgt := 28) (by decide +kernel) (by decide) ⟨by omega, by omega⟩ ⟨by omega, by omega⟩ (fun h19 => ?_) (fun h19 => ?_)
      · refine g_iconst (a := 0) (by decide +kernel) ?_
        first
          | (have hz : zv S t 1 i = x := h19
             have p2 : 2 ^ i < 2 ^ 12 := Nat.pow_lt_pow_right (by decide) (by omega)
             refine g_ior (x := zbits (fun j => decide (zv S t 1 j = x)) i) (y := 2 ^ i) (by decide +kernel) (by omega) (by omega) ?_
             refine g_istore_n (i := 2) (L' := [(0, _), (1, _), (2, _), (3, _)]) (by decide +kernel) rfl rfl ?_
             refine g_iinc (i := 3) (b := 1) (L' := [(0, _), (1, _), (2, _), (3, _)]) (by decide +kernel) rfl rfl rfl ?_
             refine g_goto (off := -30) (tgt := 4) (by decide +kernel) (by decide) ?_
             exact ih (i + 1) _ _ (by push_cast; rfl) (by rw [zbits_t (decide_eq_true hz)]) (by omega) (by omega))
          | (have hz : ¬ zv S t 1 i = x := h19
             refine g_ior (x := zbits (fun j => decide (zv S t 1 j = x)) i) (y := 0) (by decide +kernel) (by omega) (by omega) ?_
             refine g_istore_n (i := 2) (L' := [(0, _), (1, _), (2, _), (3, _)]) (by decide +kernel) rfl rfl ?_
             refine g_iinc (i := 3) (b := 1) (L' := [(0, _), (1, _), (2, _), (3, _)]) (by decide +kernel) rfl rfl rfl ?_
             refine g_goto (off := -30) (tgt := 4) (by decide +kernel) (by decide) ?_
             exact ih (i + 1) _ _ (by push_cast; rfl) (by rw [zbits_f (decide_eq_false hz), Nat.or_zero]) (by omega) (by omega))
      · refine g_iconst (a := 1) (by decide +kernel) ?_
        refine g_iload_n (i := 3) (by decide +kernel) rfl ?_
        refine g_ishl1 (by decide +kernel) (by omega) ?_
        refine g_goto (off := 4) (tgt := 29) (by decide +kernel) (by decide) ?_
        first
          | (have hz : zv S t 1 i = x := h19
             have p2 : 2 ^ i < 2 ^ 12 := Nat.pow_lt_pow_right (by decide) (by omega)
             refine g_ior (x := zbits (fun j => decide (zv S t 1 j = x)) i) (y := 2 ^ i) (by decide +kernel) (by omega) (by omega) ?_
             refine g_istore_n (i := 2) (L' := [(0, _), (1, _), (2, _), (3, _)]) (by decide +kernel) rfl rfl ?_
             refine g_iinc (i := 3) (b := 1) (L' := [(0, _), (1, _), (2, _), (3, _)]) (by decide +kernel) rfl rfl rfl ?_
             refine g_goto (off := -30) (tgt := 4) (by decide +kernel) (by decide) ?_
             exact ih (i + 1) _ _ (by push_cast; rfl) (by rw [zbits_t (decide_eq_true hz)]) (by omega) (by omega))
          | (have hz : ¬ zv S t 1 i = x := h19
             refine g_ior (x := zbits (fun j => decide (zv S t 1 j = x)) i) (y := 0) (by decide +kernel) (by omega) (by omega) ?_
             refine g_istore_n (i := 2) (L' := [(0, _), (1, _), (2, _), (3, _)]) (by decide +kernel) rfl rfl ?_
             refine g_iinc (i := 3) (b := 1) (L' := [(0, _), (1, _), (2, _), (3, _)]) (by decide +kernel) rfl rfl rfl ?_
             refine g_goto (off := -30) (tgt := 4) (by decide +kernel) (by decide) ?_
             exact ih (i + 1) _ _ (by push_cast; rfl) (by rw [zbits_f (decide_eq_false hz), Nat.or_zero]) (by omega) (by omega))
theorem c_Md_setOf {G : zG} {n : Nat} {σ : zSt} {S : zSt} {t x : Int} (hn : 220 ≤ n) (hM : zMz S) (hS : zMc σ S) (h6 : zSo2 σ S 6 t (zN S)) (hx : x = 2 ∨ x = 3)  : Gm G y_Md_setOf m_Md_setOf 1 0 0 [vr G 189, vi x] n SH σ (zI n SH (fun a σ' => a = (zset S t x : Int) ∧ σ' = σ)) := by
  refine g_enter (L := [(0, _), (1, _)]) (by decide) rfl rfl rfl (Nat.le_of_ble_eq_true rfl) (fun X => ?_)
  refine g_iconst (a := 0) (by decide +kernel) ?_
  refine g_istore_n (i := 2) (L' := [(0, _), (1, _), (2, _)]) (by decide +kernel) rfl rfl ?_
  refine g_iconst (a := 0) (by decide +kernel) ?_
  refine g_istore_n (i := 3) (L' := [(0, _), (1, _), (2, _), (3, _)]) (by decide +kernel) rfl rfl ?_
  exact w_Md_setOf hn hM hS h6 hx (zN S + 1) 0 _ _ rfl rfl (by omega) (by omega)
def zMf6 (σ τ : zSt) : Prop := ∀ a, (a < 202 ∨ 206 < a) → τ a = σ a
theorem w_Md_isChange {G : zG} {X : zX} {n : Nat} {σ : zSt} {S : zSt} {t : Int} (hn : 220 ≤ n) (hP : zPd σ S) (h7 : zSo2 σ S 7 (t - 1) (zN S)) (h6 : zSo2 σ S 6 t (zN S))  : ∀ (m : Nat) (i : Nat) (x2 : Int), x2 = (i : Int) → (∀ k, k < i → zv S t 1 k = zv S (t - 1) 1 k) → i ≤ zN S → zN S < i + m → Go G X m_Md_isChange (17, 0, 0, 0, 0) n SH σ 18 [(0, vr G 189), (1, vi t), (2, vi x2)] [] (zI n SH (fun a σ' => a = (if zdif S t (t - 1) = true then 1 else 0) ∧ σ' = σ)) := by
  intro m
  induction m with
  | zero => intro i x2 e2 he hi hm; exact absurd hm (by omega)
  | succ m ih =>
    intro i x2 e2 he hi hm
    obtain ⟨hM, hS, hL, hO, hpp⟩ := id hP
    have e0 := hS.n
    have e8 := hS.p
    have hN := hS.N
    have hz : zN S = (S 0 0).toNat := rfl
    subst e2
    refine g_iload_n (i := 2) (by decide +kernel) rfl ?_
    refine g_aload_n (i := 0) (by decide +kernel) rfl ?_
    refine g_cVI (st := _) (c_Md_clips hn) k_Md_clips l_Md_148 (by decide +kernel) (by omega) rfl rfl rfl rfl (Nat.le_of_ble_eq_true rfl) (by decide) ⟨by decide, by decide⟩ ?_
    rintro a0 σ9 ⟨ea0, hσ9⟩
    obtain rfl := hσ9.symm
    subst ea0
    refine g_icmp_ge (off := 32) (tgt := 55) (by decide +kernel) (by decide) ⟨by omega, by omega⟩ ⟨by omega, by omega⟩ (fun h23 => ?_) (fun h23 => ?_)
    · refine g_iconst (a := 0) (by decide +kernel) ?_
      refine g_retI (by decide +kernel) rfl (Or.inr ⟨rfl, by omega⟩) ⟨by decide, by decide⟩ ?_
      refine ⟨?_, rfl⟩
      rw [if_neg]
      unfold zdif
      rw [zany_f (fun k hk => decide_eq_false (fun y => y (he k (by omega))))]
      decide
    · have k6 := (zS6 h6 (show i < zN S by omega)).1
      have k7 := (zS7 h7 (show i < zN S by omega)).1
      have s6 := zv_st (t := t) hM (show i < zN S by omega)
      have s7 := zv_st (t := t - 1) hM (show i < zN S by omega)
      refine g_aload_n (i := 0) (by decide +kernel) rfl ?_
      refine g_getr f_Md_88 (by decide +kernel) (by omega) rfl rfl ?_
      refine g_bipush (a := 84) (by decide +kernel) (by decide) ?_
      refine g_iload_n (i := 2) (by decide +kernel) rfl ?_
      refine g_iadd (by decide +kernel) ?_
      refine g_iald (j := (84 + i)) (by decide +kernel) (by omega) rfl (by omega) (by omega) (by decide) ?_
      refine g_aload_n (i := 0) (by decide +kernel) rfl ?_
      refine g_getr f_Md_88 (by decide +kernel) (by omega) rfl rfl ?_
      refine g_bipush (a := 72) (by decide +kernel) (by decide) ?_
      refine g_iload_n (i := 2) (by decide +kernel) rfl ?_
      refine g_iadd (by decide +kernel) ?_
      refine g_iald (j := (72 + i)) (by decide +kernel) (by omega) rfl (by omega) (by omega) (by decide) ?_
      refine g_icmp_eq (off := 5) (tgt := 49) (by decide +kernel) (by decide) ⟨by omega, by omega⟩ ⟨by omega, by omega⟩ (fun h44 => ?_) (fun h44 => ?_)
      · refine g_iinc (i := 2) (b := 1) (L' := [(0, _), (1, _), (2, _)]) (by decide +kernel) rfl rfl rfl ?_
        refine g_goto (off := -34) (tgt := 18) (by decide +kernel) (by decide) ?_
        refine ih (i + 1) _ (by push_cast; rfl) (fun k hk => ?_) (by omega) (by omega)
        rcases Nat.lt_or_ge k i with z | z
        · exact he k z
        · rw [show k = i by omega]; omega
      · refine g_iconst (a := 1) (by decide +kernel) ?_
        refine g_retI (by decide +kernel) rfl (Or.inr ⟨rfl, by omega⟩) ⟨by decide, by decide⟩ ?_
        refine ⟨?_, rfl⟩
        rw [if_pos]
        unfold zdif
        exact zany_t (i := i) (decide_eq_true (by omega)) (by omega)
theorem c_Md_isChange {G : zG} {n : Nat} {σ : zSt} {S : zSt} {t : Int} (hn : 220 ≤ n) (hP : zPd σ S) (ht : 1 ≤ t ∧ t ≤ 1999)  : Gm G y_Md_isChange m_Md_isChange 17 0 0 [vr G 189, vi t] n SH σ (zI n SH (fun a σ' => a = (if zdif S t (t - 1) = true then 1 else 0) ∧ zMf6 σ σ' ∧ zPd σ' S)) := by
  refine g_enter (L := [(0, _), (1, _)]) (by decide) rfl rfl rfl (Nat.le_of_ble_eq_true rfl) (fun X => ?_)
  obtain ⟨hM, hS, hL, hO, hpp⟩ := id hP
  have e0 := hS.n
  have e8 := hS.p
  have hN := hS.N
  have hz : zN S = (S 0 0).toNat := rfl
  refine g_aload_n (i := 0) (by decide +kernel) rfl ?_
  refine g_bipush (a := 7) (by decide +kernel) (by decide) ?_
  refine g_iload_n (i := 1) (by decide +kernel) rfl ?_
  refine g_iconst (a := 1) (by decide +kernel) ?_
  refine g_isub (by decide +kernel) ?_
  refine g_cVV (st := _) (c_Md_laysSlot (s := 7) (t := t - 1) hn (hP.x (by decide) _) (fun i hi _ => by omega) ⟨by omega, by omega⟩) k_Md_laysSlot l_Md_372 (by decide +kernel) (by omega) rfl rfl rfl rfl (Nat.le_of_ble_eq_true rfl) (by decide) ⟨by decide, by decide⟩ ?_
  rintro υ ⟨hr7, h7⟩
  have hP1 := hP.slot (by decide) hr7
  refine g_aload_n (i := 0) (by decide +kernel) rfl ?_
  refine g_bipush (a := 6) (by decide +kernel) (by decide) ?_
  refine g_iload_n (i := 1) (by decide +kernel) rfl ?_
  refine g_cVV (st := _) (c_Md_laysSlot (s := 6) (t := t) hn (hP1.x (by decide) _) (fun i hi _ => by omega) ⟨by omega, by omega⟩) k_Md_laysSlot l_Md_372 (by decide +kernel) (by omega) rfl rfl rfl rfl (Nat.le_of_ble_eq_true rfl) (by decide) ⟨by decide, by decide⟩ ?_
  rintro ω ⟨hr6, h6⟩
  have hP2 := hP1.slot (by decide) hr6
  have h7 := hr6.o2 (show 7 ≠ 6 by decide) (by omega) h7
  refine g_iconst (a := 0) (by decide +kernel) ?_
  refine g_istore_n (i := 2) (L' := [(0, _), (1, _), (2, _)]) (by decide +kernel) rfl rfl ?_
  refine Go.mono (w_Md_isChange hn hP2 h7 h6 (zN S + 1) 0 _ rfl (fun k hk => by omega) (by omega) (by omega)) ?_
  rintro r n' sh' σ' ⟨⟨a, ea, e1, e2⟩, e3, e4⟩
  refine ⟨⟨a, ea, e1, ?_, ?_⟩, e3, e4⟩
  · rw [e2]; exact fun a ha => by rw [hr6.1 a ha]; exact hr7.1 a ha
  · rw [e2]; exact hP2
