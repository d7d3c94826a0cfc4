theorem zs_app (σ : zSt) (k j : Nat) (v : Int) (a : Nat) : zs σ k j v a = if a = k then zu (σ k) j v else σ a := by
  by_cases h : a = k
  · subst h; rw [if_pos rfl, zs_row]
  · rw [if_neg h, zs_other h]
theorem zcp_app (σ : zSt) (s sp d dp m a : Nat) : zcp σ s sp d dp m a = if a = d then (fun j => if dp ≤ j ∧ j < dp + m then σ s (sp + (j - dp)) else σ d j) else σ a := by
  by_cases h : a = d
  · subst h; rw [if_pos rfl]; funext j; unfold zcp; simp
  · rw [if_neg h, zcp_other h]
/-- a whole row anew -/
def zrow (σ : zSt) (a : Nat) (f : Nat → Int) : zSt := fun q => if q = a then f else σ q
theorem zrow_eq (σ : zSt) (a : Nat) (f : Nat → Int) : zrow σ a f a = f := if_pos rfl
theorem zrow_ne {σ : zSt} {a q : Nat} {f : Nat → Int} (h : q ≠ a) : zrow σ a f q = σ q := if_neg h
theorem zrow_id (σ : zSt) (a : Nat) : zrow σ a (σ a) = σ := by
  funext q
  by_cases h : q = a
  · subst h; exact zrow_eq _ _ _
  · exact zrow_ne h
theorem zs_zrow (σ : zSt) (a j : Nat) (f : Nat → Int) (v : Int) : zs (zrow σ a f) a j v = zrow σ a (zu f j v) := by
  funext q
  by_cases h : q = a
  · subst h; rw [zs_row, zrow_eq, zrow_eq]
  · rw [zs_other h, zrow_ne h, zrow_ne h]
/-- how many lie around: the way out from x -/
def zdep (ar : Nat → Int) : Nat → Int → Nat
  | 0, _ => 0
  | f + 1, x => if x = -1 then 0 else zdep ar f (ar x.toNat) + 1
def zany (p : Nat → Bool) : Nat → Bool
  | 0 => false
  | n + 1 => zany p n || p n
theorem zany_f {p : Nat → Bool} : ∀ {n : Nat}, (∀ k, k < n → p k = false) → zany p n = false
  | 0, _ => rfl
  | n + 1, h => by unfold zany; rw [zany_f (fun k hk => h k (by omega)), h n (by omega)]; rfl
theorem zany_t {p : Nat → Bool} {i : Nat} (hp : p i = true) : ∀ {n : Nat}, i < n → zany p n = true
  | 0, h => by omega
  | n + 1, h => by
    unfold zany
    rcases Nat.lt_or_ge i n with q | q
    · rw [zany_t hp q]; rfl
    · rw [show n = i by omega, hp]; simp
theorem zany_iff {p : Nat → Bool} : ∀ {n : Nat}, zany p n = true ↔ ∃ i, i < n ∧ p i = true
  | 0 => ⟨fun h => absurd h (by simp [zany]), fun h => by obtain ⟨i, h1, h2⟩ := h; omega⟩
  | n + 1 => by
    unfold zany
    rw [Bool.or_eq_true, zany_iff]
    constructor
    · rintro (⟨i, h1, h2⟩ | h)
      · exact ⟨i, by omega, h2⟩
      · exact ⟨n, by omega, h⟩
    · rintro ⟨i, h1, h2⟩
      rcases Nat.lt_or_ge i n with q | q
      · exact Or.inl ⟨i, q, h2⟩
      · exact Or.inr (by rw [show n = i by omega]; exact h2)
/-- by another -/
def zby (h : Int) : Bool := decide (h = 1 ∨ h = 2)
/-- whether the way by 'other' leads from x to q, in so many steps -/
def zlead (how other : Nat → Int) (q : Int) : Nat → Int → Bool
  | 0, _ => false
  | f + 1, x => if x = q then true else if zby (how x.toNat) = true then zlead how other q f (other x.toNat) else false
theorem zlead_s (how other : Nat → Int) (q : Int) (f : Nat) (x : Int) : zlead how other q (f + 1) x = if x = q then true else if zby (how x.toNat) = true then zlead how other q f (other x.toNat) else false := rfl
theorem w_Sh_howManyAroundNew {G : zG} {X : zX} {n : Nat} {σ : zSt} {b : Nat} {x : Int} (hn : 189 ≤ n) (hS : zSw SH b) (hg : zGood σ b) : ∀ (m : Nat) (i : Nat) (x2 x3 : Int), x2 = (i : Int) → (-1 ≤ x3 ∧ x3 ≤ 11) → zdep (σ (b + 2)) 12 x = i + zdep (σ (b + 2)) (12 - i) x3 → i ≤ 12 → 12 < i + m → Go G X m_Sh_howManyAroundNew (0, 0, 0, 0, 0) n SH σ 4 [(0, vr G b), (1, vi x), (2, vi x2), (3, vi x3)] [] (zI n SH (fun a σ' => a = (zdep (σ (b + 2)) 12 x : Int) ∧ σ' = σ)) := by
  intro m
  induction m with
  | zero => intro i x2 x3 e2 hx e4 hi hm; exact absurd hm (by omega)
  | succ m ih =>
    intro i x2 x3 e2 hx e4 hi hm
    have hb := hS.1
    have hc := hg.1
    refine g_iload_n (i := 3) (by decide +kernel) rfl ?_
    refine g_iconst (a := -1) (by decide +kernel) ?_
    refine g_icmp_eq (off := 22) (tgt := 28) (by decide +kernel) (by decide) ⟨by omega, by omega⟩ ⟨by omega, by omega⟩ (fun h6 => ?_) (fun h6 => ?_)
    · refine g_iload_n (i := 2) (by decide +kernel) rfl ?_
      refine g_retI (by decide +kernel) rfl (Or.inl rfl) ⟨by decide, by decide⟩ ?_
      first
        | exact ⟨by rw [e4, show x3 = -1 by omega]; cases 12 - i <;> simp [zdep] <;> omega, rfl⟩
        | exact ⟨by rw [e4, show 12 - i = 0 by omega]; simp [zdep]; omega, rfl⟩
    · refine g_iload_n (i := 2) (by decide +kernel) rfl ?_
      refine g_bipush (a := 12) (by decide +kernel) (by decide) ?_
      refine g_icmp_ge (off := 16) (tgt := 28) (by decide +kernel) (by decide) ⟨by omega, by omega⟩ ⟨by omega, by omega⟩ (fun h12 => ?_) (fun h12 => ?_)
      · refine g_iload_n (i := 2) (by decide +kernel) rfl ?_
        refine g_retI (by decide +kernel) rfl (Or.inl rfl) ⟨by decide, by decide⟩ ?_
        first
          | exact ⟨by rw [e4, show x3 = -1 by omega]; cases 12 - i <;> simp [zdep] <;> omega, rfl⟩
          | exact ⟨by rw [e4, show 12 - i = 0 by omega]; simp [zdep]; omega, rfl⟩
      · obtain ⟨j, rfl⟩ := Int.eq_ofNat_of_zero_le (show 0 ≤ x3 by omega)
        have hk2 := hg.2.1 j (by omega)
        refine g_iinc (i := 2) (b := 1) (L' := [(0, _), (1, _), (2, _), (3, _)]) (by decide +kernel) rfl rfl rfl ?_
        refine g_aload_n (i := 0) (by decide +kernel) rfl ?_
        refine g_getr f_Sh_15 (by decide +kernel) (by omega) hS.a0 rfl ?_
        refine g_iload_n (i := 3) (by decide +kernel) rfl ?_
        refine g_iald (by decide +kernel) (by omega) hS.a2 rfl (by omega) (by decide) ?_
        refine g_istore_n (i := 3) (L' := [(0, _), (1, _), (2, _), (3, _)]) (by decide +kernel) rfl rfl ?_
        refine g_goto (off := -21) (tgt := 4) (by decide +kernel) (by decide) ?_
        refine ih (i + 1) _ _ (by omega) (by omega) ?_ (by omega) (by omega)
        rw [e4, show 12 - i = (12 - (i + 1)) + 1 by omega]
        conv => lhs; unfold zdep
        rw [if_neg (by omega)]
        show _ = i + 1 + zdep (σ (b + 2)) (12 - (i + 1)) (σ (b + 2) j)
        rw [Int.toNat_natCast]
        omega
theorem c_Sh_howManyAroundNew {G : zG} {n : Nat} {σ : zSt} {b : Nat} {x : Int} (hn : 189 ≤ n) (hS : zSw SH b) (hg : zGood σ b) (hx : -1 ≤ x ∧ x ≤ 11) : Gm G y_Sh_howManyAroundNew m_Sh_howManyAroundNew 0 0 0 [vr G b, vi x] n SH σ (zI n SH (fun a σ' => a = (zdep (σ (b + 2)) 12 x : Int) ∧ σ' = σ)) := by
  refine g_enter (L := [(0, _), (1, _)]) (by decide) rfl rfl rfl (Nat.le_of_ble_eq_true rfl) (fun X => ?_)
  refine g_iconst (a := 0) (by decide +kernel) ?_
  refine g_istore_n (i := 2) (L' := [(0, _), (1, _), (2, _)]) (by decide +kernel) rfl rfl ?_
  refine g_iload_n (i := 1) (by decide +kernel) rfl ?_
  refine g_istore_n (i := 3) (L' := [(0, _), (1, _), (2, _), (3, _)]) (by decide +kernel) rfl rfl ?_
  exact w_Sh_howManyAroundNew hn hS hg 13 0 _ _ rfl hx (by simp) (by omega) (by omega)
theorem c_Sh_isInPar {G : zG} {n : Nat} {σ : zSt} {b : Nat} {k : Nat} (hn : 189 ≤ n) (hS : zSw SH b) (hg : zGood σ b) (hk : k < 12) : Gm G y_Sh_isInPar m_Sh_isInPar 0 0 0 [vr G b, vi k] n SH σ (zI n SH (fun a σ' => a = (if σ (b + 2) k ≠ -1 ∧ σ (b + 1) (σ (b + 2) k).toNat = 1 then 1 else 0) ∧ σ' = σ)) := by
  refine g_enter (L := [(0, _), (1, _)]) (by decide) rfl rfl rfl (Nat.le_of_ble_eq_true rfl) (fun X => ?_)
  have hb := hS.1
  have hc := hg.1
  have hk2 := hg.2.1 k hk
  refine g_aload_n (i := 0) (by decide +kernel) rfl ?_
  refine g_getr f_Sh_15 (by decide +kernel) (by omega) hS.a0 rfl ?_
  refine g_iload_n (i := 1) (by decide +kernel) rfl ?_
  refine g_iald (by decide +kernel) (by omega) hS.a2 rfl (by omega) (by decide) ?_
  refine g_iconst (a := -1) (by decide +kernel) ?_
  refine g_icmp_eq (off := 22) (tgt := 29) (by decide +kernel) (by decide) ⟨by omega, by omega⟩ ⟨by omega, by omega⟩ (fun h7 => ?_) (fun h7 => ?_)
  · refine g_iconst (a := 0) (by decide +kernel) ?_
    refine g_retI (by decide +kernel) rfl (Or.inr ⟨rfl, by omega⟩) ⟨by decide, by decide⟩ ?_
    exact ⟨by split <;> omega, rfl⟩
  · have hk3 := hg.2.1 (σ (b + 2) k).toNat (by omega)
    refine g_aload_n (i := 0) (by decide +kernel) rfl ?_
    refine g_getr f_Sh_9 (by decide +kernel) (by omega) hS.a0 rfl ?_
    refine g_aload_n (i := 0) (by decide +kernel) rfl ?_
    refine g_getr f_Sh_15 (by decide +kernel) (by omega) hS.a0 rfl ?_
    refine g_iload_n (i := 1) (by decide +kernel) rfl ?_
    refine g_iald (by decide +kernel) (by omega) hS.a2 rfl (by omega) (by decide) ?_
    refine g_iald (j := (σ (b + 2) k).toNat) (by decide +kernel) (by omega) hS.a1 (by omega) (by omega) (by decide) ?_
    refine g_iconst (a := 1) (by decide +kernel) ?_
    refine g_icmp_ne (off := 7) (tgt := 29) (by decide +kernel) (by decide) ⟨by omega, by omega⟩ ⟨by omega, by omega⟩ (fun h22 => ?_) (fun h22 => ?_)
    · refine g_iconst (a := 0) (by decide +kernel) ?_
      refine g_retI (by decide +kernel) rfl (Or.inr ⟨rfl, by omega⟩) ⟨by decide, by decide⟩ ?_
      exact ⟨by split <;> omega, rfl⟩
    · refine g_iconst (a := 1) (by decide +kernel) ?_
      refine g_goto (off := 4) (tgt := 30) (by decide +kernel) (by decide) ?_
      refine g_retI (by decide +kernel) rfl (Or.inr ⟨rfl, by omega⟩) ⟨by decide, by decide⟩ ?_
      exact ⟨by split <;> omega, rfl⟩
theorem c_Sh_startsByAnother {G : zG} {n : Nat} {σ : zSt} {b : Nat} {k : Nat} (hn : 189 ≤ n) (hS : zSw SH b) (hg : zGood σ b) (hk : k < 12) : Gm G y_Sh_startsByAnother m_Sh_startsByAnother 0 0 0 [vr G b, vi k] n SH σ (zI n SH (fun a σ' => a = (if zby (σ (b + 4) k) = true then 1 else 0) ∧ σ' = σ)) := by
  refine g_enter (L := [(0, _), (1, _)]) (by decide) rfl rfl rfl (Nat.le_of_ble_eq_true rfl) (fun X => ?_)
  have hb := hS.1
  have hc := hg.1
  have hk2 := hg.2.1 k hk
  refine g_aload_n (i := 0) (by decide +kernel) rfl ?_
  refine g_getr f_Sh_21 (by decide +kernel) (by omega) hS.a0 rfl ?_
  refine g_iload_n (i := 1) (by decide +kernel) rfl ?_
  refine g_iald (by decide +kernel) (by omega) hS.a4 rfl (by omega) (by decide) ?_
  refine g_iconst (a := 1) (by decide +kernel) ?_
  refine g_icmp_eq (off := 13) (tgt := 20) (by decide +kernel) (by decide) ⟨by omega, by omega⟩ ⟨by omega, by omega⟩ (fun h7 => ?_) (fun h7 => ?_)
  · refine g_iconst (a := 1) (by decide +kernel) ?_
    refine g_goto (off := 4) (tgt := 25) (by decide +kernel) (by decide) ?_
    refine g_retI (by decide +kernel) rfl (Or.inr ⟨rfl, by omega⟩) ⟨by decide, by decide⟩ ?_
    exact ⟨by unfold zby; split <;> simp_all <;> omega, rfl⟩
  · refine g_aload_n (i := 0) (by decide +kernel) rfl ?_
    refine g_getr f_Sh_21 (by decide +kernel) (by omega) hS.a0 rfl ?_
    refine g_iload_n (i := 1) (by decide +kernel) rfl ?_
    refine g_iald (by decide +kernel) (by omega) hS.a4 rfl (by omega) (by decide) ?_
    refine g_iconst (a := 2) (by decide +kernel) ?_
    refine g_icmp_ne (off := 7) (tgt := 24) (by decide +kernel) (by decide) ⟨by omega, by omega⟩ ⟨by omega, by omega⟩ (fun h17 => ?_) (fun h17 => ?_)
    · refine g_iconst (a := 0) (by decide +kernel) ?_
      refine g_retI (by decide +kernel) rfl (Or.inr ⟨rfl, by omega⟩) ⟨by decide, by decide⟩ ?_
      exact ⟨by unfold zby; split <;> simp_all <;> omega, rfl⟩
    · refine g_iconst (a := 1) (by decide +kernel) ?_
      refine g_goto (off := 4) (tgt := 25) (by decide +kernel) (by decide) ?_
      refine g_retI (by decide +kernel) rfl (Or.inr ⟨rfl, by omega⟩) ⟨by decide, by decide⟩ ?_
      exact ⟨by unfold zby; split <;> simp_all <;> omega, rfl⟩
theorem w_Sh_startsAnother {G : zG} {X : zX} {n : Nat} {σ : zSt} {b : Nat} {k : Int} (hn : 189 ≤ n) (hS : zSw SH b) (hg : zGood σ b) (hk : zr k) : ∀ (m : Nat) (i : Nat) (x2 : Int), x2 = (i : Int) → (∀ j, j < i → (fun j => zby (σ (b + 4) j) && decide (σ (b + 5) j = k)) j = false) → i ≤ (σ b 0).toNat → (σ b 0).toNat < i + m → Go G X m_Sh_startsAnother (1, 0, 0, 0, 0) n SH σ 2 [(0, vr G b), (1, vi k), (2, vi x2)] [] (zI n SH (fun a σ' => a = (if zany (fun j => zby (σ (b + 4) j) && decide (σ (b + 5) j = k)) (σ b 0).toNat = true then 1 else 0) ∧ σ' = σ)) := by
  intro m
  induction m with
  | zero => intro i x2 e3 e2 hi hm; exact absurd hm (by omega)
  | succ m ih =>
    intro i x2 e3 e2 hi hm
    have hb := hS.1
    have hc := hg.1
    refine g_iload_n (i := 2) (by decide +kernel) rfl ?_
    refine g_aload_n (i := 0) (by decide +kernel) rfl ?_
    refine g_geti f_Sh_39 (by decide +kernel) (by omega) hS.a0 rfl ?_
    refine g_icmp_ge (off := 29) (tgt := 36) (by decide +kernel) (by decide) ⟨by omega, by omega⟩ ⟨by omega, by omega⟩ (fun h7 => ?_) (fun h7 => ?_)
    · refine g_iconst (a := 0) (by decide +kernel) ?_
      refine g_retI (by decide +kernel) rfl (Or.inr ⟨rfl, by omega⟩) ⟨by decide, by decide⟩ ?_
      exact ⟨by rw [zany_f (fun j hj => e2 j (by omega))]; rfl, rfl⟩
    · have hk2 := hg.2.1 i (by omega)
      subst e3
      refine g_aload_n (i := 0) (by decide +kernel) rfl ?_
      refine g_iload_n (i := 2) (by decide +kernel) rfl ?_
      refine g_cVI (st := []) (c_Sh_startsByAnother (k := i) hn hS hg (by omega)) k_Sh_startsByAnother l_Sh_52 (by decide +kernel) (by omega) hS.a0 rfl rfl rfl (by decide) (by decide) ⟨by decide, by decide⟩ ?_
      rintro a σ1 ⟨rfl, hσ⟩
      obtain rfl := hσ.symm
      refine g_if_eq (off := 15) (tgt := 30) (by decide +kernel) (by decide) zbr (fun h15 => ?_) (fun h15 => ?_)
      · have h15 := zb0.mp h15
        refine g_iinc (i := 2) (b := 1) (L' := [(0, _), (1, _), (2, _)]) (by decide +kernel) rfl rfl rfl ?_
        refine g_goto (off := -31) (tgt := 2) (by decide +kernel) (by decide) ?_
        exact ih (i + 1) _ (by omega) (fun j hj => by
          rcases Nat.lt_or_ge j i with q | q
          · exact e2 j q
          · rw [show j = i by omega]; simp_all) (by omega) (by omega)
      · have h15 := zb1.mp h15
        refine g_aload_n (i := 0) (by decide +kernel) rfl ?_
        refine g_getr f_Sh_24 (by decide +kernel) (by omega) hS.a0 rfl ?_
        refine g_iload_n (i := 2) (by decide +kernel) rfl ?_
        refine g_iald (j := i) (by decide +kernel) (by omega) hS.a5 rfl (by omega) (by decide) ?_
        refine g_iload_n (i := 1) (by decide +kernel) rfl ?_
        refine g_icmp_ne (off := 5) (tgt := 30) (by decide +kernel) (by decide) ⟨by omega, by omega⟩ ⟨by omega, by omega⟩ (fun h25 => ?_) (fun h25 => ?_)
        · refine g_iinc (i := 2) (b := 1) (L' := [(0, _), (1, _), (2, _)]) (by decide +kernel) rfl rfl rfl ?_
          refine g_goto (off := -31) (tgt := 2) (by decide +kernel) (by decide) ?_
          exact ih (i + 1) _ (by omega) (fun j hj => by
            rcases Nat.lt_or_ge j i with q | q
            · exact e2 j q
            · rw [show j = i by omega]; simp_all) (by omega) (by omega)
        · refine g_iconst (a := 1) (by decide +kernel) ?_
          refine g_retI (by decide +kernel) rfl (Or.inr ⟨rfl, by omega⟩) ⟨by decide, by decide⟩ ?_
          exact ⟨by rw [zany_t (i := i) (by simp_all) (by omega)]; rfl, rfl⟩
theorem c_Sh_startsAnother {G : zG} {n : Nat} {σ : zSt} {b : Nat} {k : Int} (hn : 189 ≤ n) (hS : zSw SH b) (hg : zGood σ b) (hk : zr k) : Gm G y_Sh_startsAnother m_Sh_startsAnother 1 0 0 [vr G b, vi k] n SH σ (zI n SH (fun a σ' => a = (if zany (fun j => zby (σ (b + 4) j) && decide (σ (b + 5) j = k)) (σ b 0).toNat = true then 1 else 0) ∧ σ' = σ)) := by
  refine g_enter (L := [(0, _), (1, _)]) (by decide) rfl rfl rfl (Nat.le_of_ble_eq_true rfl) (fun X => ?_)
  refine g_iconst (a := 0) (by decide +kernel) ?_
  refine g_istore_n (i := 2) (L' := [(0, _), (1, _), (2, _)]) (by decide +kernel) rfl rfl ?_
  exact w_Sh_startsAnother hn hS hg hk ((σ b 0).toNat + 1) 0 _ rfl (fun j hj => by omega) (by omega) (by omega)
theorem w_Sh_startLeadsTo {G : zG} {X : zX} {n : Nat} {σ : zSt} {b : Nat} {x q : Int} (hn : 189 ≤ n) (hS : zSw SH b) (hg : zGood σ b) (hq : zr q) {D : Int → Prop} (hD : ∀ y, D y → 0 ≤ y ∧ y ≤ 11 ∧ (zby (σ (b + 4) y.toNat) = true → D (σ (b + 5) y.toNat))) : ∀ (m : Nat) (i : Nat) (x3 x4 : Int), x4 = (i : Int) → D x3 → zlead (σ (b + 4)) (σ (b + 5)) q 12 x = zlead (σ (b + 4)) (σ (b + 5)) q (12 - i) x3 → i ≤ 12 → 12 < i + m → Go G X m_Sh_startLeadsTo (1, 0, 0, 0, 0) n SH σ 5 [(0, vr G b), (1, vi x), (2, vi q), (3, vi x3), (4, vi x4)] [] (zI n SH (fun a σ' => a = (if zlead (σ (b + 4)) (σ (b + 5)) q 12 x = true then 1 else 0) ∧ σ' = σ)) := by
  intro m
  induction m with
  | zero => intro i x3 x4 e4 hx e5 hi hm; exact absurd hm (by omega)
  | succ m ih =>
    intro i x3 x4 e4 hx e5 hi hm
    have hb := hS.1
    have hc := hg.1
    have hx2 := hD x3 hx
    obtain ⟨j, rfl⟩ := Int.eq_ofNat_of_zero_le (show 0 ≤ x3 by omega)
    have hk2 := hg.2.1 j (by omega)
    rw [Int.toNat_natCast] at hx2
    refine g_iload (i := 4) (by decide +kernel) rfl ?_
    refine g_bipush (a := 12) (by decide +kernel) (by decide) ?_
    refine g_icmp_ge (off := 33) (tgt := 42) (by decide +kernel) (by decide) ⟨by omega, by omega⟩ ⟨by omega, by omega⟩ (fun h9 => ?_) (fun h9 => ?_)
    · refine g_iconst (a := 0) (by decide +kernel) ?_
      refine g_retI (by decide +kernel) rfl (Or.inr ⟨rfl, by omega⟩) ⟨by decide, by decide⟩ ?_
      exact ⟨by rw [e5, show 12 - i = 0 by omega]; rfl, rfl⟩
    · rw [show 12 - i = (12 - (i + 1)) + 1 by omega, zlead_s _ _ _ (12 - (i + 1))] at e5
      rw [Int.toNat_natCast] at e5
      refine g_iload_n (i := 3) (by decide +kernel) rfl ?_
      refine g_iload_n (i := 2) (by decide +kernel) rfl ?_
      refine g_icmp_ne (off := 5) (tgt := 19) (by decide +kernel) (by decide) ⟨by omega, by omega⟩ ⟨by omega, by omega⟩ (fun h14 => ?_) (fun h14 => ?_)
      · rw [if_neg h14] at e5
        refine g_aload_n (i := 0) (by decide +kernel) rfl ?_
        refine g_iload_n (i := 3) (by decide +kernel) rfl ?_
        refine g_cVI (st := []) (c_Sh_startsByAnother (k := j) hn hS hg (by omega)) k_Sh_startsByAnother l_Sh_52 (by decide +kernel) (by omega) hS.a0 rfl rfl rfl (by decide) (by decide) ⟨by decide, by decide⟩ ?_
        rintro a σ1 ⟨rfl, hσ⟩
        obtain rfl := hσ.symm
        refine g_if_ne (off := 5) (tgt := 29) (by decide +kernel) (by decide) zbr (fun h24 => ?_) (fun h24 => ?_)
        · have h24 := zb1.mp h24
          rw [if_pos h24] at e5
          refine g_aload_n (i := 0) (by decide +kernel) rfl ?_
          refine g_getr f_Sh_24 (by decide +kernel) (by omega) hS.a0 rfl ?_
          refine g_iload_n (i := 3) (by decide +kernel) rfl ?_
          refine g_iald (by decide +kernel) (by omega) hS.a5 rfl (by omega) (by decide) ?_
          refine g_istore_n (i := 3) (L' := [(0, _), (1, _), (2, _), (3, _), (4, _)]) (by decide +kernel) rfl rfl ?_
          refine g_iinc (i := 4) (b := 1) (L' := [(0, _), (1, _), (2, _), (3, _), (4, _)]) (by decide +kernel) rfl rfl rfl ?_
          refine g_goto (off := -34) (tgt := 5) (by decide +kernel) (by decide) ?_
          exact ih (i + 1) _ _ (by omega) (hx2.2.2 h24) e5 (by omega) (by omega)
        · have h24 := zb0.mp h24
          rw [if_neg h24] at e5
          refine g_iconst (a := 0) (by decide +kernel) ?_
          refine g_retI (by decide +kernel) rfl (Or.inr ⟨rfl, by omega⟩) ⟨by decide, by decide⟩ ?_
          exact ⟨by rw [e5]; rfl, rfl⟩
      · rw [if_pos h14] at e5
        refine g_iconst (a := 1) (by decide +kernel) ?_
        refine g_retI (by decide +kernel) rfl (Or.inr ⟨rfl, by omega⟩) ⟨by decide, by decide⟩ ?_
        exact ⟨by rw [e5]; rfl, rfl⟩
theorem c_Sh_startLeadsTo {G : zG} {n : Nat} {σ : zSt} {b : Nat} {x q : Int} (hn : 189 ≤ n) (hS : zSw SH b) (hg : zGood σ b) (hq : zr q) {D : Int → Prop} (hD : ∀ y, D y → 0 ≤ y ∧ y ≤ 11 ∧ (zby (σ (b + 4) y.toNat) = true → D (σ (b + 5) y.toNat))) (hx : D x) : Gm G y_Sh_startLeadsTo m_Sh_startLeadsTo 1 0 0 [vr G b, vi x, vi q] n SH σ (zI n SH (fun a σ' => a = (if zlead (σ (b + 4)) (σ (b + 5)) q 12 x = true then 1 else 0) ∧ σ' = σ)) := by
  refine g_enter (L := [(0, _), (1, _), (2, _)]) (by decide) rfl rfl rfl (Nat.le_of_ble_eq_true rfl) (fun X => ?_)
  refine g_iload_n (i := 1) (by decide +kernel) rfl ?_
  refine g_istore_n (i := 3) (L' := [(0, _), (1, _), (2, _), (3, _)]) (by decide +kernel) rfl rfl ?_
  refine g_iconst (a := 0) (by decide +kernel) ?_
  refine g_istore (i := 4) (L' := [(0, _), (1, _), (2, _), (3, _), (4, _)]) (by decide +kernel) rfl rfl ?_
  exact w_Sh_startLeadsTo hn hS hg hq hD 13 0 _ _ rfl hx rfl (by omega) (by omega)
theorem w_Sh_bitsOfLeaves {G : zG} {X : zX} {n : Nat} {σ : zSt} {b : Nat} (hn : 189 ≤ n) (hS : zSw SH b) (hg : zGood σ b) : ∀ (m : Nat) (i : Nat) (x1 x2 : Int), x2 = (i : Int) → x1 = (zbits (fun j => decide (σ (b + 1) j = 0)) i : Int) → i ≤ (σ b 0).toNat → (σ b 0).toNat < i + m → Go G X m_Sh_bitsOfLeaves (0, 0, 0, 0, 0) n SH σ 4 [(0, vr G b), (1, vi x1), (2, vi x2)] [] (zI n SH (fun a σ' => a = (zbits (fun j => decide (σ (b + 1) j = 0)) (σ b 0).toNat : Int) ∧ σ' = σ)) := by
  intro m
  induction m with
  | zero => intro i x1 x2 e3 e2 hi hm; exact absurd hm (by omega)
  | succ m ih =>
    intro i x1 x2 e3 e2 hi hm
    have hb := hS.1
    have hc := hg.1
    subst e3 e2
    have hz := zbits_le (p := (fun j => decide (σ (b + 1) j = 0))) (show i ≤ 12 by omega)
    refine g_iload_n (i := 2) (by decide +kernel) rfl ?_
    refine g_aload_n (i := 0) (by decide +kernel) rfl ?_
    refine g_geti f_Sh_39 (by decide +kernel) (by omega) hS.a0 rfl ?_
    refine g_icmp_ge (off := 24) (tgt := 33) (by decide +kernel) (by decide) ⟨by omega, by omega⟩ ⟨by omega, by omega⟩ (fun h9 => ?_) (fun h9 => ?_)
    · refine g_iload_n (i := 1) (by decide +kernel) rfl ?_
      refine g_retI (by decide +kernel) rfl (Or.inl rfl) ⟨by decide, by decide⟩ ?_
      exact ⟨by rw [show i = (σ b 0).toNat by omega], rfl⟩
    · have hk2 := hg.2.1 i (by omega)
      have hp : 2 ^ i < 4096 := Nat.pow_lt_pow_right (by decide) (show i < 12 by omega)
      refine g_aload_n (i := 0) (by decide +kernel) rfl ?_
      refine g_getr f_Sh_9 (by decide +kernel) (by omega) hS.a0 rfl ?_
      refine g_iload_n (i := 2) (by decide +kernel) rfl ?_
      refine g_iald (j := i) (by decide +kernel) (by omega) hS.a1 rfl (by omega) (by decide) ?_
      refine g_if_ne (off := 9) (tgt := 27) (by decide +kernel) (by decide) ⟨by omega, by omega⟩ (fun h18 => ?_) (fun h18 => ?_)
      · refine g_iinc (i := 2) (b := 1) (L' := [(0, _), (1, _), (2, _)]) (by decide +kernel) rfl rfl rfl ?_
        refine g_goto (off := -26) (tgt := 4) (by decide +kernel) (by decide) ?_
        exact ih (i + 1) _ _ (by omega) (by first | rw [zbits_t (by simpa using h18)] | rw [zbits_f (by simpa using h18)]) (by omega) (by omega)
      · refine g_iload_n (i := 1) (by decide +kernel) rfl ?_
        refine g_iconst (a := 1) (by decide +kernel) ?_
        refine g_iload_n (i := 2) (by decide +kernel) rfl ?_
        refine g_ishl1 (by decide +kernel) (by omega) ?_
        refine g_ior (by decide +kernel) (by omega) (by omega) ?_
        refine g_istore_n (i := 1) (L' := [(0, _), (1, _), (2, _)]) (by decide +kernel) rfl rfl ?_
        refine g_iinc (i := 2) (b := 1) (L' := [(0, _), (1, _), (2, _)]) (by decide +kernel) rfl rfl rfl ?_
        refine g_goto (off := -26) (tgt := 4) (by decide +kernel) (by decide) ?_
        exact ih (i + 1) _ _ (by omega) (by first | rw [zbits_t (by simpa using h18)] | rw [zbits_f (by simpa using h18)]) (by omega) (by omega)
theorem c_Sh_bitsOfLeaves {G : zG} {n : Nat} {σ : zSt} {b : Nat} (hn : 189 ≤ n) (hS : zSw SH b) (hg : zGood σ b) : Gm G y_Sh_bitsOfLeaves m_Sh_bitsOfLeaves 0 0 0 [vr G b] n SH σ (zI n SH (fun a σ' => a = (zbits (fun j => decide (σ (b + 1) j = 0)) (σ b 0).toNat : Int) ∧ σ' = σ)) := by
  refine g_enter (L := [(0, _)]) (by decide) rfl rfl rfl (Nat.le_of_ble_eq_true rfl) (fun X => ?_)
  refine g_iconst (a := 0) (by decide +kernel) ?_
  refine g_istore_n (i := 1) (L' := [(0, _), (1, _)]) (by decide +kernel) rfl rfl ?_
  refine g_iconst (a := 0) (by decide +kernel) ?_
  refine g_istore_n (i := 2) (L' := [(0, _), (1, _), (2, _)]) (by decide +kernel) rfl rfl ?_
  exact w_Sh_bitsOfLeaves hn hS hg ((σ b 0).toNat + 1) 0 _ _ rfl rfl (by omega) (by omega)
theorem w_Sh_hasPress {G : zG} {X : zX} {n : Nat} {σ : zSt} {b : Nat} {k t : Int} (hn : 189 ≤ n) (hS : zSw SH b) (hg : zGood σ b) (hk : zr k) (ht : zr t) : ∀ (m : Nat) (i : Nat) (x3 : Int), x3 = (i : Int) → (∀ j, j < i → (fun j => decide (σ (b + 8) j = k ∧ σ (b + 9) j = t)) j = false) → i ≤ (σ b 8).toNat → (σ b 8).toNat < i + m → Go G X m_Sh_hasPress (0, 0, 0, 0, 0) n SH σ 2 [(0, vr G b), (1, vi k), (2, vi t), (3, vi x3)] [] (zI n SH (fun a σ' => a = (if zany (fun j => decide (σ (b + 8) j = k ∧ σ (b + 9) j = t)) (σ b 8).toNat = true then 1 else 0) ∧ σ' = σ)) := by
  intro m
  induction m with
  | zero => intro i x3 e3 e2 hi hm; exact absurd hm (by omega)
  | succ m ih =>
    intro i x3 e3 e2 hi hm
    have hb := hS.1
    have hc := hg.1
    refine g_iload_n (i := 3) (by decide +kernel) rfl ?_
    refine g_aload_n (i := 0) (by decide +kernel) rfl ?_
    refine g_geti f_Sh_49 (by decide +kernel) (by omega) hS.a0 rfl ?_
    refine g_icmp_ge (off := 31) (tgt := 38) (by decide +kernel) (by decide) ⟨by omega, by omega⟩ ⟨by omega, by omega⟩ (fun h7 => ?_) (fun h7 => ?_)
    · refine g_iconst (a := 0) (by decide +kernel) ?_
      refine g_retI (by decide +kernel) rfl (Or.inr ⟨rfl, by omega⟩) ⟨by decide, by decide⟩ ?_
      exact ⟨by rw [zany_f (fun j hj => e2 j (by omega))]; rfl, rfl⟩
    · have hk2 := hg.2.2.2 i (by omega)
      subst e3
      refine g_aload_n (i := 0) (by decide +kernel) rfl ?_
      refine g_getr f_Sh_33 (by decide +kernel) (by omega) hS.a0 rfl ?_
      refine g_iload_n (i := 3) (by decide +kernel) rfl ?_
      refine g_iald (j := i) (by decide +kernel) (by omega) hS.a8 rfl (by omega) (by decide) ?_
      refine g_iload_n (i := 1) (by decide +kernel) rfl ?_
      refine g_icmp_ne (off := 15) (tgt := 32) (by decide +kernel) (by decide) ⟨by omega, by omega⟩ ⟨by omega, by omega⟩ (fun h17 => ?_) (fun h17 => ?_)
      · refine g_iinc (i := 3) (b := 1) (L' := [(0, _), (1, _), (2, _), (3, _)]) (by decide +kernel) rfl rfl rfl ?_
        refine g_goto (off := -33) (tgt := 2) (by decide +kernel) (by decide) ?_
        exact ih (i + 1) _ (by omega) (fun j hj => by
          rcases Nat.lt_or_ge j i with q | q
          · exact e2 j q
          · rw [show j = i by omega]; simp_all) (by omega) (by omega)
      · refine g_aload_n (i := 0) (by decide +kernel) rfl ?_
        refine g_getr f_Sh_36 (by decide +kernel) (by omega) hS.a0 rfl ?_
        refine g_iload_n (i := 3) (by decide +kernel) rfl ?_
        refine g_iald (j := i) (by decide +kernel) (by omega) hS.a9 rfl (by omega) (by decide) ?_
        refine g_iload_n (i := 2) (by decide +kernel) rfl ?_
        refine g_icmp_ne (off := 5) (tgt := 32) (by decide +kernel) (by decide) ⟨by omega, by omega⟩ ⟨by omega, by omega⟩ (fun h27 => ?_) (fun h27 => ?_)
        · refine g_iinc (i := 3) (b := 1) (L' := [(0, _), (1, _), (2, _), (3, _)]) (by decide +kernel) rfl rfl rfl ?_
          refine g_goto (off := -33) (tgt := 2) (by decide +kernel) (by decide) ?_
          exact ih (i + 1) _ (by omega) (fun j hj => by
            rcases Nat.lt_or_ge j i with q | q
            · exact e2 j q
            · rw [show j = i by omega]; simp_all) (by omega) (by omega)
        · refine g_iconst (a := 1) (by decide +kernel) ?_
          refine g_retI (by decide +kernel) rfl (Or.inr ⟨rfl, by omega⟩) ⟨by decide, by decide⟩ ?_
          exact ⟨by rw [zany_t (i := i) (by simp_all) (by omega)]; rfl, rfl⟩
theorem c_Sh_hasPress {G : zG} {n : Nat} {σ : zSt} {b : Nat} {k t : Int} (hn : 189 ≤ n) (hS : zSw SH b) (hg : zGood σ b) (hk : zr k) (ht : zr t) : Gm G y_Sh_hasPress m_Sh_hasPress 0 0 0 [vr G b, vi k, vi t] n SH σ (zI n SH (fun a σ' => a = (if zany (fun j => decide (σ (b + 8) j = k ∧ σ (b + 9) j = t)) (σ b 8).toNat = true then 1 else 0) ∧ σ' = σ)) := by
  refine g_enter (L := [(0, _), (1, _), (2, _)]) (by decide) rfl rfl rfl (Nat.le_of_ble_eq_true rfl) (fun X => ?_)
  refine g_iconst (a := 0) (by decide +kernel) ?_
  refine g_istore_n (i := 3) (L' := [(0, _), (1, _), (2, _), (3, _)]) (by decide +kernel) rfl rfl ?_
  exact w_Sh_hasPress hn hS hg hk ht ((σ b 8).toNat + 1) 0 _ rfl (fun j hj => by omega) (by omega) (by omega)
theorem c_Sh_empty {G : zG} {n : Nat} {σ : zSt} {b : Nat} (hn : 189 ≤ n) (hS : zSw SH b) : Gm G y_Sh_empty m_Sh_empty 0 0 0 [vr G b] n SH σ (zV n SH (fun σ' => σ' = zs (zs σ b 0 0) b 8 0)) := by
  refine g_enter (L := [(0, _)]) (by decide) rfl rfl rfl (Nat.le_of_ble_eq_true rfl) (fun X => ?_)
  have hb := hS.1
  refine g_aload_n (i := 0) (by decide +kernel) rfl ?_
  refine g_iconst (a := 0) (by decide +kernel) ?_
  refine g_puti f_Sh_39 (by decide +kernel) (by omega) hS.a0 rfl ?_
  refine g_aload_n (i := 0) (by decide +kernel) rfl ?_
  refine g_iconst (a := 0) (by decide +kernel) ?_
  refine g_puti f_Sh_49 (by decide +kernel) (by omega) hS.a0 rfl ?_
  refine g_retV (by decide +kernel) rfl ⟨by decide, by decide⟩ ?_
  exact rfl
theorem c_Sh_putMark {G : zG} {n : Nat} {σ : zSt} {b : Nat} {k w : Nat} {v : Int} (hn : 189 ≤ n) (hS : zSw SH b) (hk : k < 12) (hw : w < 9) : Gm G y_Sh_putMark m_Sh_putMark 0 0 0 [vr G b, vi k, vi w, vi v] n SH σ (zV n SH (fun σ' => σ' = zs σ (b + 7) (9 * k + w) v)) := by
  refine g_enter (L := [(0, _), (1, _), (2, _), (3, _)]) (by decide) rfl rfl rfl (Nat.le_of_ble_eq_true rfl) (fun X => ?_)
  have hb := hS.1
  refine g_aload_n (i := 0) (by decide +kernel) rfl ?_
  refine g_getr f_Sh_30 (by decide +kernel) (by omega) hS.a0 rfl ?_
  refine g_iload_n (i := 1) (by decide +kernel) rfl ?_
  refine g_bipush (a := 9) (by decide +kernel) (by decide) ?_
  refine g_imul (by decide +kernel) ?_
  refine g_iload_n (i := 2) (by decide +kernel) rfl ?_
  refine g_iadd (by decide +kernel) ?_
  refine g_iload_n (i := 3) (by decide +kernel) rfl ?_
  refine g_iast (j := 9 * k + w) (by decide +kernel) (by omega) hS.a7 (by omega) (by omega) (by decide) ?_
  refine g_retV (by decide +kernel) rfl ⟨by decide, by decide⟩ ?_
  exact rfl
theorem c_Sh_putStart {G : zG} {n : Nat} {σ : zSt} {b : Nat} {k : Nat} {x y v : Int} (hn : 189 ≤ n) (hS : zSw SH b) (hk : k < 12) : Gm G y_Sh_putStart m_Sh_putStart 0 0 0 [vr G b, vi k, vi x, vi y, vi v] n SH σ (zV n SH (fun σ' => σ' = zs (zs (zs σ (b + 4) k x) (b + 5) k y) (b + 6) k v)) := by
  refine g_enter (L := [(0, _), (1, _), (2, _), (3, _), (4, _)]) (by decide) rfl rfl rfl (Nat.le_of_ble_eq_true rfl) (fun X => ?_)
  have hb := hS.1
  refine g_aload_n (i := 0) (by decide +kernel) rfl ?_
  refine g_getr f_Sh_21 (by decide +kernel) (by omega) hS.a0 rfl ?_
  refine g_iload_n (i := 1) (by decide +kernel) rfl ?_
  refine g_iload_n (i := 2) (by decide +kernel) rfl ?_
  refine g_iast (by decide +kernel) (by omega) hS.a4 rfl (by omega) (by decide) ?_
  refine g_aload_n (i := 0) (by decide +kernel) rfl ?_
  refine g_getr f_Sh_24 (by decide +kernel) (by omega) hS.a0 rfl ?_
  refine g_iload_n (i := 1) (by decide +kernel) rfl ?_
  refine g_iload_n (i := 3) (by decide +kernel) rfl ?_
  refine g_iast (by decide +kernel) (by omega) hS.a5 rfl (by omega) (by decide) ?_
  refine g_aload_n (i := 0) (by decide +kernel) rfl ?_
  refine g_getr f_Sh_27 (by decide +kernel) (by omega) hS.a0 rfl ?_
  refine g_iload_n (i := 1) (by decide +kernel) rfl ?_
  refine g_iload (i := 4) (by decide +kernel) rfl ?_
  refine g_iast (by decide +kernel) (by omega) hS.a6 rfl (by omega) (by decide) ?_
  refine g_retV (by decide +kernel) rfl ⟨by decide, by decide⟩ ?_
  exact rfl
theorem c_Sh_appendPress {G : zG} {n : Nat} {σ : zSt} {b : Nat} {x y : Int} (hn : 189 ≤ n) (hS : zSw SH b) (hg : zGood σ b) (hp : σ b 8 < 6) : Gm G y_Sh_appendPress m_Sh_appendPress 0 0 0 [vr G b, vi x, vi y] n SH σ (zV n SH (fun σ' => σ' = zs (zs (zs σ (b + 8) (σ b 8).toNat x) (b + 9) (σ b 8).toNat y) b 8 (σ b 8 + 1))) := by
  refine g_enter (L := [(0, _), (1, _), (2, _)]) (by decide) rfl rfl rfl (Nat.le_of_ble_eq_true rfl) (fun X => ?_)
  have hb := hS.1
  have hc := hg.1
  refine g_aload_n (i := 0) (by decide +kernel) rfl ?_
  refine g_getr f_Sh_33 (by decide +kernel) (by omega) hS.a0 rfl ?_
  refine g_aload_n (i := 0) (by decide +kernel) rfl ?_
  refine g_geti f_Sh_49 (by decide +kernel) (by omega) hS.a0 rfl ?_
  refine g_iload_n (i := 1) (by decide +kernel) rfl ?_
  refine g_iast (j := (σ b 8).toNat) (by decide +kernel) (by omega) hS.a8 (by omega) (by omega) (by decide) ?_
  refine g_aload_n (i := 0) (by decide +kernel) rfl ?_
  refine g_getr f_Sh_36 (by decide +kernel) (by omega) hS.a0 rfl ?_
  refine g_aload_n (i := 0) (by decide +kernel) rfl ?_
  refine g_geti f_Sh_49 (by decide +kernel) (by omega) hS.a0 rfl ?_
  refine g_iload_n (i := 2) (by decide +kernel) rfl ?_
  refine g_iast (j := (σ b 8).toNat) (by decide +kernel) (by omega) hS.a9 (by simp [zs_app]; omega) (by omega) (by decide) ?_
  refine g_aload_n (i := 0) (by decide +kernel) rfl ?_
  refine g_dup (by decide +kernel) rfl ?_
  refine g_geti f_Sh_49 (by decide +kernel) (by omega) hS.a0 rfl ?_
  refine g_iconst (a := 1) (by decide +kernel) ?_
  refine g_iadd (by decide +kernel) ?_
  refine g_puti f_Sh_49 (by decide +kernel) (by omega) hS.a0 rfl ?_
  refine g_retV (by decide +kernel) rfl ⟨by decide, by decide⟩ ?_
  simp [zs_app]
