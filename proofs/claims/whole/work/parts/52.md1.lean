/-! THE REFERENCE. Its Show lies in the row of cell 190, from o on -/
def zmO (r : Nat) : Nat := if r = 1 then 2 else if r = 2 then 14 else if r = 3 then 26 else if r = 4 then 146 else if r = 5 then 158 else if r = 6 then 170 else if r = 7 then 38 else if r = 8 then 182 else 188
def zMw (c : Nat → Int) (o : Nat) : zSt := fun r j => if r = 0 then (if j = 8 then c (o + 1) else c o) else c (o + zmO r + j)
/-- the reference's Show says the same as S, which is a good one -/
def zMc (σ S : zSt) : Prop := zEqv S (zMw (σ 190) 0) ∧ zGood S 0 ∧ zVt S
section MC
variable {σ τ S : zSt} {k i w : Nat}
theorem zMc.moved (h : zMc σ S) (e : τ 190 = σ 190) : zMc τ S := by unfold zMc; rw [e]; exact h
theorem zMc.n (h : zMc σ S) : σ 190 0 = S 0 0 := h.1.1.1
theorem zMc.p (h : zMc σ S) : σ 190 1 = S 0 8 := h.1.1.2
theorem zMc.N (h : zMc σ S) : 0 ≤ S 0 0 ∧ S 0 0 ≤ 12 ∧ 0 ≤ S 0 8 ∧ S 0 8 ≤ 6 := h.2.1.1
theorem zMc.row (h : zMc σ S) (hk : k < zN S) {r : Nat} (h1 : 1 ≤ r) (h2 : r ≤ 6) : σ 190 (zmO r + k) = S r k := by
  have := h.1.2.1 k hk r h1 h2
  unfold zMw at this
  rw [if_neg (by omega), Nat.zero_add] at this
  exact this
theorem zMc.kd (h : zMc σ S) (hk : k < zN S) : σ 190 (2 + k) = S 1 k := h.row hk (r := 1) (by decide) (by decide)
theorem zMc.ar (h : zMc σ S) (hk : k < zN S) : σ 190 (14 + k) = S 2 k := h.row hk (r := 2) (by decide) (by decide)
theorem zMc.pl (h : zMc σ S) (hk : k < zN S) : σ 190 (26 + k) = S 3 k := h.row hk (r := 3) (by decide) (by decide)
theorem zMc.hw (h : zMc σ S) (hk : k < zN S) : σ 190 (146 + k) = S 4 k := h.row hk (r := 4) (by decide) (by decide)
theorem zMc.ot (h : zMc σ S) (hk : k < zN S) : σ 190 (158 + k) = S 5 k := h.row hk (r := 5) (by decide) (by decide)
theorem zMc.mu (h : zMc σ S) (hk : k < zN S) : σ 190 (170 + k) = S 6 k := h.row hk (r := 6) (by decide) (by decide)
theorem zMc.mk (h : zMc σ S) (hk : k < zN S) (hw : w < 9) : σ 190 (38 + (9 * k) + w) = S 7 (9 * k + w) := by
  have := h.1.2.2.1 k hk w hw
  unfold zMw at this
  rw [if_neg (by decide), Nat.zero_add] at this
  rw [Nat.add_assoc]
  exact this
theorem zMc.ky (h : zMc σ S) (hi : i < (S 0 8).toNat) : σ 190 (182 + i) = S 8 i := by
  have := (h.1.2.2.2 i hi).1
  unfold zMw at this
  rw [if_neg (by decide), Nat.zero_add] at this
  exact this
theorem zMc.tm (h : zMc σ S) (hi : i < (S 0 8).toNat) : σ 190 (188 + i) = S 9 i := by
  have := (h.1.2.2.2 i hi).2
  unfold zMw at this
  rw [if_neg (by decide), Nat.zero_add] at this
  exact this
theorem zMc.rg (h : zMc σ S) (hk : k < 12) : (0 ≤ S 1 k ∧ S 1 k ≤ 2) ∧ (-1 ≤ S 2 k ∧ S 2 k ≤ 11) ∧ (0 ≤ S 3 k ∧ S 3 k ≤ 12) ∧ (0 ≤ S 4 k ∧ S 4 k ≤ 3) ∧ (-1 ≤ S 5 k ∧ S 5 k ≤ 11) ∧ (0 ≤ S 6 k ∧ S 6 k ≤ 999) := h.2.1.2.1 k hk
theorem zMc.mr (h : zMc σ S) (hk : k < 12) (hw : w < 9) : 0 ≤ S 7 (9 * k + w) ∧ S 7 (9 * k + w) ≤ 999 := h.2.1.2.2.1 (9 * k + w) (by omega)
theorem zMc.pr (h : zMc σ S) (hi : i < 6) : (0 ≤ S 8 i ∧ S 8 i ≤ 3) ∧ (0 ≤ S 9 i ∧ S 9 i ≤ 1999) := h.2.1.2.2.2 i hi
end MC
theorem c_Md_clips {G : zG} {n : Nat} {σ : zSt} (hn : 220 ≤ n)  : Gm G y_Md_clips m_Md_clips 0 0 0 [vr G 189] n SH σ (zI n SH (fun a σ' => a = σ 190 0 ∧ σ' = σ)) := by
  refine g_enter (L := [(0, _)]) (by decide) rfl rfl rfl (Nat.le_of_ble_eq_true rfl) (fun X => ?_)
  refine g_aload_n (i := 0) (by decide +kernel) rfl ?_
  refine g_getr f_Md_7 (by decide +kernel) (by omega) rfl rfl ?_
  refine g_iconst (a := 0) (by decide +kernel) ?_
  refine g_iald (j := 0) (by decide +kernel) (by omega) rfl (by omega) (by omega) (by decide) ?_
  refine g_retI (by decide +kernel) rfl (Or.inl rfl) ⟨by decide, by decide⟩ ?_
  exact ⟨rfl, rfl⟩
theorem c_Md_isIn {G : zG} {n : Nat} {σ : zSt} {v lo hi : Int} (z1 : zr v) (z2 : zr lo) (z3 : zr hi) : Gm G y_Md_isIn m_Md_isIn 0 0 0 [vi v, vi lo, vi hi] n SH σ (zI n SH (fun a σ' => a = (if lo ≤ v ∧ v ≤ hi then 1 else 0) ∧ σ' = σ)) := by
  refine g_enter (L := [(0, _), (1, _), (2, _)]) (by decide) rfl rfl rfl (Nat.le_of_ble_eq_true rfl) (fun X => ?_)
  refine g_iload_n (i := 0) (by decide +kernel) rfl ?_
  refine g_iload_n (i := 1) (by decide +kernel) rfl ?_
  refine g_icmp_lt (off := 12) (tgt := 14) (by decide +kernel) (by decide) ⟨by omega, by omega⟩ ⟨by omega, by omega⟩ (fun h2 => ?_) (fun h2 => ?_)
  · refine g_iconst (a := 0) (by decide +kernel) ?_
    refine g_retI (by decide +kernel) rfl (Or.inr ⟨rfl, by omega⟩) ⟨by decide, by decide⟩ ?_
    exact ⟨by split <;> omega, rfl⟩
  · refine g_iload_n (i := 0) (by decide +kernel) rfl ?_
    refine g_iload_n (i := 2) (by decide +kernel) rfl ?_
    refine g_icmp_gt (off := 7) (tgt := 14) (by decide +kernel) (by decide) ⟨by omega, by omega⟩ ⟨by omega, by omega⟩ (fun h7 => ?_) (fun h7 => ?_)
    · refine g_iconst (a := 0) (by decide +kernel) ?_
      refine g_retI (by decide +kernel) rfl (Or.inr ⟨rfl, by omega⟩) ⟨by decide, by decide⟩ ?_
      exact ⟨by split <;> omega, rfl⟩
    · refine g_iconst (a := 1) (by decide +kernel) ?_
      refine g_goto (off := 4) (tgt := 15) (by decide +kernel) (by decide) ?_
      refine g_retI (by decide +kernel) rfl (Or.inr ⟨rfl, by omega⟩) ⟨by decide, by decide⟩ ?_
      exact ⟨by split <;> omega, rfl⟩
theorem c_Md_isClip {G : zG} {n : Nat} {σ : zSt} {k : Int} (hn : 220 ≤ n) (z1 : zr k) (hc : 0 ≤ σ 190 0 ∧ σ 190 0 ≤ 12) : Gm G y_Md_isClip m_Md_isClip 1 0 0 [vr G 189, vi k] n SH σ (zI n SH (fun a σ' => a = (if 0 ≤ k ∧ k < σ 190 0 then 1 else 0) ∧ σ' = σ)) := by
  refine g_enter (L := [(0, _), (1, _)]) (by decide) rfl rfl rfl (Nat.le_of_ble_eq_true rfl) (fun X => ?_)
  obtain ⟨z1a, z1b⟩ := id z1
  refine g_iload_n (i := 1) (by decide +kernel) rfl ?_
  refine g_iconst (a := 0) (by decide +kernel) ?_
  refine g_aload_n (i := 0) (by decide +kernel) rfl ?_
  refine g_cVI (st := _) (c_Md_clips hn) k_Md_clips l_Md_148 (by decide +kernel) (by omega) rfl rfl rfl rfl (Nat.le_of_ble_eq_true rfl) (by decide) ⟨by decide, by decide⟩ ?_
  rintro a0 σ9 ⟨ea0, hσ9⟩
  obtain rfl := hσ9.symm
  subst ea0
  refine g_iconst (a := 1) (by decide +kernel) ?_
  refine g_isub (by decide +kernel) ?_
  refine g_cSI (st := _) (c_Md_isIn ⟨by omega, by omega⟩ ⟨by omega, by omega⟩ ⟨by omega, by omega⟩) k_Md_isIn l_Md_152 (by decide +kernel) rfl rfl (Nat.le_of_ble_eq_true rfl) (by decide) ⟨by decide, by decide⟩ ?_
  rintro a9 σ9 ⟨ea9, hσ9⟩
  obtain rfl := hσ9.symm
  subst ea9
  refine g_retI (by decide +kernel) rfl (Or.inr ⟨rfl, zb01⟩) ⟨by decide, by decide⟩ ?_
  refine ⟨?_, rfl⟩
  by_cases z : 0 ≤ k ∧ k < σ 190 0
  · rw [if_pos z, if_pos (by omega)]
  · rw [if_neg z, if_neg (by omega)]
theorem c_Md_kind {G : zG} {n : Nat} {σ : zSt} {k : Nat} (hn : 220 ≤ n) (hk : k < 12) : Gm G y_Md_kind m_Md_kind 0 0 0 [vr G 189, vi (k : Int)] n SH σ (zI n SH (fun a σ' => a = σ 190 (2 + k) ∧ σ' = σ)) := by
  refine g_enter (L := [(0, _), (1, _)]) (by decide) rfl rfl rfl (Nat.le_of_ble_eq_true rfl) (fun X => ?_)
  refine g_aload_n (i := 0) (by decide +kernel) rfl ?_
  refine g_getr f_Md_7 (by decide +kernel) (by omega) rfl rfl ?_
  refine g_iconst (a := 2) (by decide +kernel) ?_
  refine g_iload_n (i := 1) (by decide +kernel) rfl ?_
  refine g_iadd (by decide +kernel) ?_
  refine g_iald (j := (2 + k)) (by decide +kernel) (by omega) rfl (by omega) (by omega) (by decide) ?_
  refine g_retI (by decide +kernel) rfl (Or.inl rfl) ⟨by decide, by decide⟩ ?_
  exact ⟨rfl, rfl⟩
theorem c_Md_around {G : zG} {n : Nat} {σ : zSt} {k : Nat} (hn : 220 ≤ n) (hk : k < 12) : Gm G y_Md_around m_Md_around 0 0 0 [vr G 189, vi (k : Int)] n SH σ (zI n SH (fun a σ' => a = σ 190 (14 + k) ∧ σ' = σ)) := by
  refine g_enter (L := [(0, _), (1, _)]) (by decide) rfl rfl rfl (Nat.le_of_ble_eq_true rfl) (fun X => ?_)
  refine g_aload_n (i := 0) (by decide +kernel) rfl ?_
  refine g_getr f_Md_7 (by decide +kernel) (by omega) rfl rfl ?_
  refine g_bipush (a := 14) (by decide +kernel) (by decide) ?_
  refine g_iload_n (i := 1) (by decide +kernel) rfl ?_
  refine g_iadd (by decide +kernel) ?_
  refine g_iald (j := (14 + k)) (by decide +kernel) (by omega) rfl (by omega) (by omega) (by decide) ?_
  refine g_retI (by decide +kernel) rfl (Or.inl rfl) ⟨by decide, by decide⟩ ?_
  exact ⟨rfl, rfl⟩
theorem c_Md_marked {G : zG} {n : Nat} {σ : zSt} {k w : Nat} (hn : 220 ≤ n) (hk : k < 12) (hw : w < 9) : Gm G y_Md_marked m_Md_marked 0 0 0 [vr G 189, vi (k : Int), vi (w : Int)] n SH σ (zI n SH (fun a σ' => a = σ 190 (38 + (9 * k) + w) ∧ σ' = σ)) := by
  refine g_enter (L := [(0, _), (1, _), (2, _)]) (by decide) rfl rfl rfl (Nat.le_of_ble_eq_true rfl) (fun X => ?_)
  refine g_aload_n (i := 0) (by decide +kernel) rfl ?_
  refine g_getr f_Md_7 (by decide +kernel) (by omega) rfl rfl ?_
  refine g_bipush (a := 38) (by decide +kernel) (by decide) ?_
  refine g_bipush (a := 9) (by decide +kernel) (by decide) ?_
  refine g_iload_n (i := 1) (by decide +kernel) rfl ?_
  refine g_imul (by decide +kernel) ?_
  refine g_iadd (by decide +kernel) ?_
  refine g_iload_n (i := 2) (by decide +kernel) rfl ?_
  refine g_iadd (by decide +kernel) ?_
  refine g_iald (j := ((38 + (9 * k)) + w)) (by decide +kernel) (by omega) rfl (by omega) (by omega) (by decide) ?_
  refine g_retI (by decide +kernel) rfl (Or.inl rfl) ⟨by decide, by decide⟩ ?_
  exact ⟨rfl, rfl⟩
theorem c_Md_refuse {G : zG} {n : Nat} {σ : zSt} {w : Int} (hn : 220 ≤ n)  : Gm G y_Md_refuse m_Md_refuse 0 0 0 [vr G 189, vi w] n SH σ (zI n SH (fun a σ' => a = -1 ∧ σ' = zs σ 189 2 w)) := by
  refine g_enter (L := [(0, _), (1, _)]) (by decide) rfl rfl rfl (Nat.le_of_ble_eq_true rfl) (fun X => ?_)
  refine g_aload_n (i := 0) (by decide +kernel) rfl ?_
  refine g_iload_n (i := 1) (by decide +kernel) rfl ?_
  refine g_puti f_Md_145 (by decide +kernel) (by omega) rfl rfl ?_
  refine g_iconst (a := -1) (by decide +kernel) ?_
  refine g_retI (by decide +kernel) rfl (Or.inl rfl) ⟨by decide, by decide⟩ ?_
  exact ⟨rfl, rfl⟩
/-- a block of the row comes to another place -/
def zcb (c : Nat → Int) (f t m : Nat) : Nat → Int := fun j => if t ≤ j ∧ j < t + m then c (f + (j - t)) else c j
theorem zcb_0 (c : Nat → Int) (f t : Nat) : zcb c f t 0 = c := by funext j; unfold zcb; rw [if_neg (by omega)]
theorem zcb_s {c : Nat → Int} {f t m : Nat} (h : f + 194 ≤ t ∨ t + 194 ≤ f) (hm : m < 194) : zu (zcb c f t m) (t + m) (zcb c f t m (f + m)) = zcb c f t (m + 1) := by
  funext j
  by_cases e : j = t + m
  · subst e
    rw [zu_eq]
    unfold zcb
    rw [if_neg (by omega), if_pos (by omega), show f + (t + m - t) = f + m by omega]
  · rw [zu_ne e]
    unfold zcb
    by_cases z : t ≤ j ∧ j < t + m
    · rw [if_pos z, if_pos (by omega)]
    · rw [if_neg z, if_neg (by omega)]
theorem w_Md_copy {G : zG} {X : zX} {n : Nat} {σ : zSt} {f t : Nat} (hn : 220 ≤ n) (hf : f + 194 ≤ 1940) (ht : t + 194 ≤ 1940) (hft : f + 194 ≤ t ∨ t + 194 ≤ f) : ∀ (m : Nat) (i : Nat) (x3 : Int), x3 = (i : Int) → i ≤ 194 → 194 < i + m → Go G X m_Md_copy (0, 0, 0, 0, 0) n SH (zrow σ 190 (zcb (σ 190) f t i)) 2 [(0, vr G 189), (1, vi (f : Int)), (2, vi (t : Int)), (3, vi x3)] [] (zV n SH (fun σ' => σ' = zrow σ 190 (zcb (σ 190) f t 194))) := by
  intro m
  induction m with
  | zero => intro i x3 e3 hi hm; exact absurd hm (by omega)
  | succ m ih =>
    intro i x3 e3 hi hm
    subst e3
    refine g_iload_n (i := 3) (by decide +kernel) rfl ?_
    refine g_sipush (a := 194) (by decide +kernel) (by decide) ?_
    refine g_icmp_ge (off := 25) (tgt := 31) (by decide +kernel) (by decide) ⟨by omega, by omega⟩ ⟨by omega, by omega⟩ (fun h6 => ?_) (fun h6 => ?_)
    · refine g_retV (by decide +kernel) rfl ⟨by decide, by decide⟩ ?_
      rw [show i = 194 by omega]
    · refine g_aload_n (i := 0) (by decide +kernel) rfl ?_
      refine g_getr f_Md_7 (by decide +kernel) (by omega) rfl rfl ?_
      refine g_iload_n (i := 2) (by decide +kernel) rfl ?_
      refine g_iload_n (i := 3) (by decide +kernel) rfl ?_
      refine g_iadd (by decide +kernel) ?_
      refine g_aload_n (i := 0) (by decide +kernel) rfl ?_
      refine g_getr f_Md_7 (by decide +kernel) (by omega) rfl rfl ?_
      refine g_iload_n (i := 1) (by decide +kernel) rfl ?_
      refine g_iload_n (i := 3) (by decide +kernel) rfl ?_
      refine g_iadd (by decide +kernel) ?_
      refine g_iald (j := (f + i)) (by decide +kernel) (by omega) rfl (by omega) (by omega) (by decide) ?_
      refine g_iast (j := (t + i)) (by decide +kernel) (by omega) rfl (by omega) (by omega) (by decide) ?_
      refine g_iinc (i := 3) (b := 1) (L' := [(0, _), (1, _), (2, _), (3, _)]) (by decide +kernel) rfl rfl rfl ?_
      refine g_goto (off := -26) (tgt := 2) (by decide +kernel) (by decide) ?_
      rw [zs_zrow, zrow_eq, zcb_s hft (by omega)]
      exact ih (i + 1) _ (by omega) (by omega) (by omega)
theorem c_Md_copy {G : zG} {n : Nat} {σ : zSt} {f t : Nat} (hn : 220 ≤ n) (hf : f + 194 ≤ 1940) (ht : t + 194 ≤ 1940) (hft : f + 194 ≤ t ∨ t + 194 ≤ f) : Gm G y_Md_copy m_Md_copy 0 0 0 [vr G 189, vi (f : Int), vi (t : Int)] n SH σ (zV n SH (fun σ' => σ' = zrow σ 190 (zcb (σ 190) f t 194))) := by
  refine g_enter (L := [(0, _), (1, _), (2, _)]) (by decide) rfl rfl rfl (Nat.le_of_ble_eq_true rfl) (fun X => ?_)
  refine g_iconst (a := 0) (by decide +kernel) ?_
  refine g_istore_n (i := 3) (L' := [(0, _), (1, _), (2, _), (3, _)]) (by decide +kernel) rfl rfl ?_
  have h0 := w_Md_copy (G := G) (X := X) (σ := σ) hn hf ht hft 195 0 _ rfl (by omega) (by omega)
  rw [zcb_0, zrow_id] at h0
  exact h0
theorem w_Md_inPlace {G : zG} {X : zX} {n : Nat} {σ : zSt} {q p : Int} {S : zSt} (hn : 220 ≤ n) (hS : zMc σ S) (z1 : zr q) (z2 : zr p) : ∀ (m : Nat) (i : Nat) (x3 : Int), x3 = (i : Int) → (∀ j, j < i → (fun j => decide (S 2 j = q ∧ S 3 j = p)) j = false) → i ≤ zN S → zN S < i + m → Go G X m_Md_inPlace (1, 0, 0, 0, 0) n SH σ 2 [(0, vr G 189), (1, vi q), (2, vi p), (3, vi x3)] [] (zI n SH (fun a σ' => a = zch S q p ∧ σ' = σ)) := by
  intro m
  induction m with
  | zero => intro i x3 e3 e2 hi hm; exact absurd hm (by omega)
  | succ m ih =>
    intro i x3 e3 e2 hi hm
    have e0 := hS.n
    have hN := hS.N
    have hz : zN S = (S 0 0).toNat := rfl
    subst e3
    obtain ⟨z1a, z1b⟩ := id z1
    obtain ⟨z2a, z2b⟩ := id z2
    refine g_iload_n (i := 3) (by decide +kernel) rfl ?_
    refine g_aload_n (i := 0) (by decide +kernel) rfl ?_
    refine g_cVI (st := _) (c_Md_clips hn) k_Md_clips l_Md_148 (by decide +kernel) (by omega) rfl rfl rfl rfl (Nat.le_of_ble_eq_true rfl) (by decide) ⟨by decide, by decide⟩ ?_
    rintro a0 σ9 ⟨ea0, hσ9⟩
    obtain rfl := hσ9.symm
    subst ea0
    refine g_icmp_ge (off := 33) (tgt := 40) (by decide +kernel) (by decide) ⟨by omega, by omega⟩ ⟨by omega, by omega⟩ (fun h7 => ?_) (fun h7 => ?_)
    · refine g_iconst (a := -1) (by decide +kernel) ?_
      refine g_retI (by decide +kernel) rfl (Or.inl rfl) ⟨by decide, by decide⟩ ?_
      exact ⟨by unfold zch; rw [zfst_none (fun j hj => e2 j (by omega))], rfl⟩
    · have kr := hS.rg (show i < 12 by omega)
      have ka := hS.ar (show i < zN S by omega)
      have kp := hS.pl (show i < zN S by omega)
      refine g_aload_n (i := 0) (by decide +kernel) rfl ?_
      refine g_iload_n (i := 3) (by decide +kernel) rfl ?_
      refine g_cVI (st := _) (c_Md_around (k := i) hn (by omega)) k_Md_around l_Md_169 (by decide +kernel) (by omega) rfl rfl rfl rfl (Nat.le_of_ble_eq_true rfl) (by decide) ⟨by decide, by decide⟩ ?_
      rintro a9 σ9 ⟨ea9, hσ9⟩
      obtain rfl := hσ9.symm
      subst ea9
      refine g_iload_n (i := 1) (by decide +kernel) rfl ?_
      refine g_icmp_ne (off := 18) (tgt := 34) (by decide +kernel) (by decide) ⟨by omega, by omega⟩ ⟨by omega, by omega⟩ (fun h16 => ?_) (fun h16 => ?_)
      · refine g_iinc (i := 3) (b := 1) (L' := [(0, _), (1, _), (2, _), (3, _)]) (by decide +kernel) rfl rfl rfl ?_
        refine g_goto (off := -35) (tgt := 2) (by decide +kernel) (by decide) ?_
        exact ih (i + 1) _ (by omega) (fun j hj => by
          rcases Nat.lt_or_ge j i with z | z
          · exact e2 j z
          · rw [show j = i by omega]; simp; omega) (by omega) (by omega)
      · refine g_aload_n (i := 0) (by decide +kernel) rfl ?_
        refine g_getr f_Md_7 (by decide +kernel) (by omega) rfl rfl ?_
        refine g_bipush (a := 26) (by decide +kernel) (by decide) ?_
        refine g_iload_n (i := 3) (by decide +kernel) rfl ?_
        refine g_iadd (by decide +kernel) ?_
        refine g_iald (j := (26 + i)) (by decide +kernel) (by omega) rfl (by omega) (by omega) (by decide) ?_
        refine g_iload_n (i := 2) (by decide +kernel) rfl ?_
        refine g_icmp_ne (off := 5) (tgt := 34) (by decide +kernel) (by decide) ⟨by omega, by omega⟩ ⟨by omega, by omega⟩ (fun h29 => ?_) (fun h29 => ?_)
        · refine g_iinc (i := 3) (b := 1) (L' := [(0, _), (1, _), (2, _), (3, _)]) (by decide +kernel) rfl rfl rfl ?_
          refine g_goto (off := -35) (tgt := 2) (by decide +kernel) (by decide) ?_
          exact ih (i + 1) _ (by omega) (fun j hj => by
            rcases Nat.lt_or_ge j i with z | z
            · exact e2 j z
            · rw [show j = i by omega]; simp; omega) (by omega) (by omega)
        · refine g_iload_n (i := 3) (by decide +kernel) rfl ?_
          refine g_retI (by decide +kernel) rfl (Or.inl rfl) ⟨by decide, by decide⟩ ?_
          exact ⟨by unfold zch; rw [zfst_at e2 (by simp; omega) (show i < zN S by omega)], rfl⟩
theorem c_Md_inPlace {G : zG} {n : Nat} {σ : zSt} {q p : Int} {S : zSt} (hn : 220 ≤ n) (hS : zMc σ S) (z1 : zr q) (z2 : zr p) : Gm G y_Md_inPlace m_Md_inPlace 1 0 0 [vr G 189, vi q, vi p] n SH σ (zI n SH (fun a σ' => a = zch S q p ∧ σ' = σ)) := by
  refine g_enter (L := [(0, _), (1, _), (2, _)]) (by decide) rfl rfl rfl (Nat.le_of_ble_eq_true rfl) (fun X => ?_)
  refine g_iconst (a := 0) (by decide +kernel) ?_
  refine g_istore_n (i := 3) (L' := [(0, _), (1, _), (2, _), (3, _)]) (by decide +kernel) rfl rfl ?_
  exact w_Md_inPlace hn hS z1 z2 (zN S + 1) 0 _ rfl (fun j hj => by omega) (by omega) (by omega)
theorem w_Md_manyIn {G : zG} {X : zX} {n : Nat} {σ : zSt} {q : Int} {S : zSt} (hn : 220 ≤ n) (hS : zMc σ S) (z1 : zr q) : ∀ (m : Nat) (i : Nat) (x2 x3 : Int), x3 = (i : Int) → x2 = (zcnt (fun j => decide (S 2 j = q)) i : Int) → i ≤ zN S → zN S < i + m → Go G X m_Md_manyIn (1, 0, 0, 0, 0) n SH σ 4 [(0, vr G 189), (1, vi q), (2, vi x2), (3, vi x3)] [] (zI n SH (fun a σ' => a = (zcnt (fun j => decide (S 2 j = q)) (zN S) : Int) ∧ σ' = σ)) := by
  intro m
  induction m with
  | zero => intro i x2 x3 e3 e2 hi hm; exact absurd hm (by omega)
  | succ m ih =>
    intro i x2 x3 e3 e2 hi hm
    have e0 := hS.n
    have hN := hS.N
    have hz : zN S = (S 0 0).toNat := rfl
    subst e3
    obtain ⟨z1a, z1b⟩ := id z1
    have zl := zcnt_le (fun j => decide (S 2 j = q)) i
    refine g_iload_n (i := 3) (by decide +kernel) rfl ?_
    refine g_aload_n (i := 0) (by decide +kernel) rfl ?_
    refine g_cVI (st := _) (c_Md_clips hn) k_Md_clips l_Md_148 (by decide +kernel) (by omega) rfl rfl rfl rfl (Nat.le_of_ble_eq_true rfl) (by decide) ⟨by decide, by decide⟩ ?_
    rintro a0 σ9 ⟨ea0, hσ9⟩
    obtain rfl := hσ9.symm
    subst ea0
    refine g_icmp_ge (off := 26) (tgt := 35) (by decide +kernel) (by decide) ⟨by omega, by omega⟩ ⟨by omega, by omega⟩ (fun h9 => ?_) (fun h9 => ?_)
    · refine g_iload_n (i := 2) (by decide +kernel) rfl ?_
      refine g_retI (by decide +kernel) rfl (Or.inl rfl) ⟨by decide, by decide⟩ ?_
      exact ⟨by rw [e2, show i = zN S by omega], rfl⟩
    · have kr := hS.rg (show i < 12 by omega)
      have ka := hS.ar (show i < zN S by omega)
      have kp := hS.pl (show i < zN S by omega)
      refine g_iload_n (i := 2) (by decide +kernel) rfl ?_
      refine g_aload_n (i := 0) (by decide +kernel) rfl ?_
      refine g_iload_n (i := 3) (by decide +kernel) rfl ?_
      refine g_cVI (st := _) (c_Md_around (k := i) hn (by omega)) k_Md_around l_Md_169 (by decide +kernel) (by omega) rfl rfl rfl rfl (Nat.le_of_ble_eq_true rfl) (by decide) ⟨by decide, by decide⟩ ?_
      rintro a9 σ9 ⟨ea9, hσ9⟩
      obtain rfl := hσ9.symm
      subst ea9
      refine g_iload_n (i := 1) (by decide +kernel) rfl ?_
      refine g_icmp_ne (off := 7) (tgt := 26) (by decide +kernel) (by decide) ⟨by omega, by omega⟩ ⟨by omega, by omega⟩ (fun h19 => ?_) (fun h19 => ?_)
      · refine g_iconst (a := 0) (by decide +kernel) ?_
        refine g_iadd (by decide +kernel) ?_
        refine g_istore_n (i := 2) (L' := [(0, _), (1, _), (2, _), (3, _)]) (by decide +kernel) rfl rfl ?_
        refine g_iinc (i := 3) (b := 1) (L' := [(0, _), (1, _), (2, _), (3, _)]) (by decide +kernel) rfl rfl rfl ?_
        refine g_goto (off := -28) (tgt := 4) (by decide +kernel) (by decide) ?_
        exact ih (i + 1) _ _ (by omega) (by first | (rw [zcnt_t (by simp; omega)]; push_cast; omega) | (rw [zcnt_f (by simp; omega)]; omega)) (by omega) (by omega)
      · refine g_iconst (a := 1) (by decide +kernel) ?_
        refine g_goto (off := 4) (tgt := 27) (by decide +kernel) (by decide) ?_
        refine g_iadd (by decide +kernel) ?_
        refine g_istore_n (i := 2) (L' := [(0, _), (1, _), (2, _), (3, _)]) (by decide +kernel) rfl rfl ?_
        refine g_iinc (i := 3) (b := 1) (L' := [(0, _), (1, _), (2, _), (3, _)]) (by decide +kernel) rfl rfl rfl ?_
        refine g_goto (off := -28) (tgt := 4) (by decide +kernel) (by decide) ?_
        exact ih (i + 1) _ _ (by omega) (by first | (rw [zcnt_t (by simp; omega)]; push_cast; omega) | (rw [zcnt_f (by simp; omega)]; omega)) (by omega) (by omega)
theorem c_Md_manyIn {G : zG} {n : Nat} {σ : zSt} {q : Int} {S : zSt} (hn : 220 ≤ n) (hS : zMc σ S) (z1 : zr q) : Gm G y_Md_manyIn m_Md_manyIn 1 0 0 [vr G 189, vi q] n SH σ (zI n SH (fun a σ' => a = (zcnt (fun j => decide (S 2 j = q)) (zN S) : Int) ∧ σ' = σ)) := by
  refine g_enter (L := [(0, _), (1, _)]) (by decide) rfl rfl rfl (Nat.le_of_ble_eq_true rfl) (fun X => ?_)
  refine g_iconst (a := 0) (by decide +kernel) ?_
  refine g_istore_n (i := 2) (L' := [(0, _), (1, _), (2, _)]) (by decide +kernel) rfl rfl ?_
  refine g_iconst (a := 0) (by decide +kernel) ?_
  refine g_istore_n (i := 3) (L' := [(0, _), (1, _), (2, _), (3, _)]) (by decide +kernel) rfl rfl ?_
  exact w_Md_manyIn hn hS z1 (zN S + 1) 0 _ _ rfl rfl (by omega) (by omega)
