/-! PLACES AND WAYS, as the reference goes them -/
section PL
variable {S : zSt} {d r : Nat → Nat} {ac : Nat → Int} {k : Nat} {q : Int}
theorem zpl_cnt (hv : zVal S d r) (q : Int) : ∀ p : Nat, zcnt (fun j => decide (S 2 j = q ∧ S 3 j < (p : Int))) (zN S) = zcnt (fun p => decide (zch S q ((p : Nat) : Int) ≠ -1)) p
  | 0 => zcnt_0.mpr (fun j hj => decide_eq_false (fun h => by have := (hv.2.2.2.2.1 j hj).1; omega))
  | p + 1 => by
    have ih := zpl_cnt hv q p
    have sp : (zch S q p = -1 ∧ ∀ k, k < zN S → decide (S 2 k = q ∧ S 3 k = (p : Int)) = false) ∨ ∃ i : Nat, zch S q p = (i : Int) ∧ i < zN S ∧ decide (S 2 i = q ∧ S 3 i = (p : Int)) = true ∧ ∀ k, k < i → decide (S 2 k = q ∧ S 3 k = (p : Int)) = false := zfst_spec
    rcases sp with ⟨e, h⟩ | ⟨i, e1, e2, e3, -⟩
    · rw [zcnt_f (by simp [e]), ← ih]
      exact zcnt_congr (fun j hj => by
        have := of_decide_eq_false (h j hj)
        apply Bool.eq_iff_iff.mpr
        rw [decide_eq_true_iff, decide_eq_true_iff]
        push_cast
        omega)
    · rw [zcnt_t (by rw [e1]; exact decide_eq_true (by omega)), ← ih]
      have e3 := of_decide_eq_true e3
      have c := zcnt_or (A := fun j => decide (S 2 j = q ∧ S 3 j < (p : Int))) e2
      rw [if_neg (by rw [decide_eq_true_iff]; omega)] at c
      rw [← c]
      exact zcnt_congr (fun j hj => by
        apply Bool.eq_iff_iff.mpr
        rw [Bool.or_eq_true, decide_eq_true_iff, decide_eq_true_iff, decide_eq_true_iff]
        have u : S 2 j = q → S 3 j = (p : Int) → j = i := fun h1 h2 => by
          have z := (hv.2.2.2.2.1 j hj).2.2
          rw [h1, h2, e1] at z
          omega
        constructor
        · rintro ⟨h1, h2⟩
          by_cases z : S 3 j = (p : Int)
          · exact Or.inr (u h1 z)
          · exact Or.inl ⟨h1, by push_cast at h2; omega⟩
        · rintro (⟨h1, h2⟩ | rfl)
          · exact ⟨h1, by push_cast; omega⟩
          · exact ⟨e3.1, by push_cast; omega⟩)
theorem zcnt_down {f : Nat → Bool} (hf : ∀ p p', p ≤ p' → f p' = true → f p = true) : ∀ n, (∀ p, p < zcnt f n → f p = true) ∧ ∀ p, p < n → f p = true → p < zcnt f n
  | 0 => ⟨fun p h => absurd h (Nat.not_lt_zero p), fun p h => by omega⟩
  | n + 1 => by
    obtain ⟨h1, h2⟩ := zcnt_down hf n
    cases e : f n with
    | true =>
      have c : zcnt f n = n := by
        have a := zcnt_le f n
        rcases Nat.eq_zero_or_pos n with z | z
        · subst z; rfl
        · have := h2 (n - 1) (by omega) (hf _ n (by omega) e)
          omega
      rw [zcnt_t e, c]
      exact ⟨fun p hp => hf p n (by omega) e, fun p hp _ => hp⟩
    | false =>
      rw [zcnt_f e]
      refine ⟨h1, fun p hp hfp => h2 p ?_ hfp⟩
      rcases Nat.lt_or_ge p n with z | z
      · exact z
      · rw [show p = n by omega, e] at hfp; cases hfp
/-- the places within q are those below their number -/
theorem zpl_iff (hv : zVal S d r) (q : Int) (p : Nat) : zch S q (p : Int) ≠ -1 ↔ p < zcnt (fun j => decide (S 2 j = q)) (zN S) := by
  have e : zcnt (fun j => decide (S 2 j = q)) (zN S) = zcnt (fun p => decide (zch S q ((p : Nat) : Int) ≠ -1)) 12 := by
    rw [← zpl_cnt hv q 12]
    exact zcnt_congr (fun j hj => by
      have := (hv.2.2.2.2.1 j hj).2.1
      apply Bool.eq_iff_iff.mpr
      rw [decide_eq_true_iff, decide_eq_true_iff]
      constructor
      · exact fun h => ⟨h, by show S 3 j < ((12 : Nat) : Int); omega⟩
      · exact fun h => h.1)
  rw [e]
  obtain ⟨h1, h2⟩ := zcnt_down (f := fun p => decide (zch S q ((p : Nat) : Int) ≠ -1)) (fun p p' hp h => by
    rw [decide_eq_true_iff] at *
    exact fun z => h (hv.2.2.2.2.2 q p p' hp z)) 12
  constructor
  · intro h
    refine h2 p ?_ (decide_eq_true h)
    rcases zch_lt S q p with z | ⟨i, z1, z2, z3, z4⟩
    · exact absurd z h
    · have := (hv.2.2.2.2.1 i z2).2.1
      omega
  · intro h
    exact of_decide_eq_true (h1 p h)
/-- how many stand behind it -/
def zrk (S : zSt) (r : Nat → Nat) (k : Nat) : Nat := zcnt (fun j => decide (S 2 j = S 2 k ∧ r j < r k)) (zN S)
theorem zrk_lt (hv : zVal S d r) (hk : k < zN S) (hb : zby (S 4 k) = true) : zrk S r (S 5 k).toNat < zrk S r k := by
  obtain ⟨h0, h1, h2, h3⟩ := hv.oth hk hb
  have c := zcnt_or (A := fun j => decide (S 2 j = S 2 (S 5 k).toNat ∧ r j < r (S 5 k).toNat)) h1
  rw [if_neg (by rw [decide_eq_true_iff]; omega)] at c
  have m := zcnt_mono (n := zN S) (p := fun v => decide (S 2 v = S 2 (S 5 k).toNat ∧ r v < r (S 5 k).toNat) || decide (v = (S 5 k).toNat)) (q := fun j => decide (S 2 j = S 2 k ∧ r j < r k)) (fun j hj h => by
    rw [Bool.or_eq_true, decide_eq_true_iff, decide_eq_true_iff] at h
    rw [decide_eq_true_iff]
    rcases h with ⟨a, b⟩ | rfl
    · exact ⟨by omega, by omega⟩
    · exact ⟨h2, h3⟩)
  unfold zrk
  omega
theorem zrk_le (hk : k < zN S) : zrk S r k < zN S := by
  have c := zcnt_or (A := fun j => decide (S 2 j = S 2 k ∧ r j < r k)) hk
  rw [if_neg (by rw [decide_eq_true_iff]; omega)] at c
  have := zcnt_le (fun v => decide (S 2 v = S 2 k ∧ r v < r k) || decide (v = k)) (zN S)
  unfold zrk
  omega
theorem zBs_end (hv : zVal S d r) : ∀ f k, k < zN S → zrk S r k ≤ f → zby (S 4 (zBs S f k)) = false
  | 0, k, hk, h => by
    show zby (S 4 k) = false
    cases e : zby (S 4 k) with
    | false => rfl
    | true => have := zrk_lt hv hk e; omega
  | f + 1, k, hk, h => by
    rw [zBs_s]
    split
    · next hb => exact zBs_end hv f _ (hv.oth hk hb).2.1 (by have := zrk_lt hv hk hb; omega)
    · next hb => cases e : zby (S 4 k) with
      | false => rfl
      | true => exact absurd e hb
theorem zBs_m : ∀ f k, zby (S 4 (zBs S f k)) = false → zBs S (f + 1) k = zBs S f k ∧ zBw S ac (f + 1) k = zBw S ac f k
  | 0, k, h => by
    have h : zby (S 4 k) = false := h
    rw [zBs_s, zBw_s, h]
    exact ⟨rfl, rfl⟩
  | f + 1, k, h => by
    rw [zBs_s] at h
    rw [zBs_s S (f + 1), zBw_s S ac (f + 1), zBs_s S f k, zBw_s S ac f k]
    split
    · next hb =>
      rw [if_pos hb] at h
      have := zBs_m f _ h
      exact ⟨this.1, by rw [this.2]⟩
    · exact ⟨rfl, rfl⟩
theorem zBg_by (hv : zVal S d r) (hk : k < zN S) (hb : zby (S 4 k) = true) : zBg S ac k = S 6 k + (if S 4 k = 2 then ac (S 5 k).toNat else 0) + zBg S ac (S 5 k).toNat ∧ zOp S k = zOp S (S 5 k).toNat := by
  have o := hv.oth hk hb
  have e := zBs_end hv 11 _ o.2.1 (by have := zrk_lt hv hk hb; have := zrk_le (r := r) hk; have := hv.1.1; omega)
  have m := zBs_m (ac := ac) 11 _ e
  have b : zBs S 12 k = zBs S 12 (S 5 k).toNat := by rw [zBs_s S 11 k, if_pos hb, m.1]
  have w : zBw S ac 12 k = S 6 k + (if S 4 k = 2 then ac (S 5 k).toNat else 0) + zBw S ac 12 (S 5 k).toNat := by rw [zBw_s S ac 11 k, if_pos hb, m.2]
  have op : zOp S k = zOp S (S 5 k).toNat := by unfold zOp; rw [b]
  refine ⟨?_, op⟩
  unfold zBg
  rw [op, w, b]
  omega
theorem zBg_own (hb : zby (S 4 k) = false) : zBg S ac k = (if S 4 k = 3 then 0 else S 6 k) ∧ zOp S k = decide (S 4 k = 3) := by
  have b : zBs S 12 k = k := by rw [zBs_s, hb]; rfl
  have w : zBw S ac 12 k = 0 := by rw [zBw_s, hb]; rfl
  have op : zOp S k = decide (S 4 k = 3) := by unfold zOp; rw [b]
  refine ⟨?_, op⟩
  unfold zBg
  rw [op, w, b]
  by_cases z : S 4 k = 3
  · rw [if_pos (decide_eq_true z), if_pos z]; rfl
  · rw [if_neg (by rw [decide_eq_true_iff]; exact z), if_neg z, Int.zero_add]
end PL
theorem zs_zs (σ : zSt) (a j : Nat) (v w : Int) : zs (zs σ a j v) a j w = zs σ a j w := by
  funext x y
  unfold zs
  split <;> rfl
/-- what is laid one behind the other within q, at places below p -/
def zRw (σ τ S : zSt) (ac : Nat → Int) (q p : Nat) : Prop := (∀ a, a ≠ 193 → τ a = σ a) ∧ (∀ j, j < zN S → S 2 j = q → S 3 j < p → τ 193 j = zEn S ac q (S 3 j).toNat + S 6 j) ∧ ∀ j, ¬ (j < zN S ∧ S 2 j = q ∧ S 3 j < p) → τ 193 j = σ 193 j
theorem zRw_step {σ τ S : zSt} {ac : Nat → Int} {q p k : Nat} {d r : Nat → Nat} {v : Int} (hv : zVal S d r) (h : zRw σ τ S ac q p) (ek : zch S q p = k) (hk : k < zN S ∧ S 2 k = q ∧ S 3 k = p) (ev : v = zEn S ac q p + S 6 k) : zRw σ (zs τ 193 k v) S ac q (p + 1) := by
  obtain ⟨h1, h2, h3⟩ := h
  have u : ∀ j, j < zN S → S 2 j = q → S 3 j = p → j = k := fun j g1 g2 g3 => by
    have z := (hv.2.2.2.2.1 j g1).2.2
    rw [g2, g3, ek] at z
    omega
  refine ⟨fun a ha => by rw [zs_other ha]; exact h1 a ha, fun j g1 g2 g3 => ?_, fun j g => ?_⟩
  · by_cases z : j = k
    · subst z
      rw [zs_eq, ev, hk.2.2, Int.toNat_natCast]
    · rw [zs_ne (fun y => z y.2)]
      exact h2 j g1 g2 (by have : ¬ S 3 j = (p : Int) := fun y => z (u j g1 g2 y); push_cast at g3; omega)
  · rw [zs_ne (fun y => g (by rw [y.2]; exact ⟨hk.1, hk.2.1, by push_cast; omega⟩))]
    exact h3 j (fun y => g ⟨y.1, y.2.1, by push_cast; omega⟩)
theorem w_Md_laysRow {G : zG} {X : zX} {n : Nat} {σ : zSt} {S : zSt} {d r : Nat → Nat} {q : Nat} {ac : Nat → Int} (hn : 220 ≤ n) (hS : zMc σ S) (hv : zVal S d r) (hq : q < zN S) (hA : ∀ j, j < zN S → S 2 j = q → σ 192 j = ac j)  : ∀ (m : Nat) (p : Nat) (x2 x4 : Int) (τ : zSt) (L5 : List (Nat × Value)), x4 = (p : Int) → x2 = zEn S ac q p → zRw σ τ S ac q p → (L5 = [] ∨ ∃ v, L5 = [(5, vi v)]) → p ≤ (zcnt (fun j => decide (S 2 j = (q : Int))) (zN S)) → (zcnt (fun j => decide (S 2 j = (q : Int))) (zN S)) < p + m → Go G X m_Md_laysRow (2, 0, 0, 0, 0) n SH τ 5 ([(0, vr G 189), (1, vi (q : Int)), (2, vl x2), (4, vi x4)] ++ L5) [] (zV n SH (fun σ' => ∃ τ, zRw σ τ S ac q 12 ∧ σ' = zs τ 191 q (zEn S ac q 12))) := by
  intro m
  induction m with
  | zero => intro p x2 x4 τ L5 e4 e2 ht h5 hi hm; exact absurd hm (by omega)
  | succ m ih =>
    intro p x2 x4 τ L5 e4 e2 ht h5 hi hm
    have e0 := hS.n
    have hN := hS.N
    have hz : zN S = (S 0 0).toNat := rfl
    have cl := zcnt_le (fun j => decide (S 2 j = (q : Int))) (zN S)
    have hT : zMc τ S := hS.moved (ht.1 190 (by decide))
    have pi := zpl_iff hv (q : Int) p
    refine g_less [0, 1, 2, 3] (L' := [(0, vr G 189), (1, vi (q : Int)), (2, vl x2), (4, vi x4)]) (by rcases h5 with rfl | ⟨v, rfl⟩ <;> rfl) ?_
    subst e4
    refine g_iload (i := 4) (by decide +kernel) rfl ?_
    refine g_aload_n (i := 0) (by decide +kernel) rfl ?_
    refine g_iload_n (i := 1) (by decide +kernel) rfl ?_
    refine g_cVI (st := _) (c_Md_manyIn (q := (q : Int)) hn hT ⟨by omega, by omega⟩) k_Md_manyIn l_Md_173 (by decide +kernel) (by omega) rfl rfl rfl rfl (Nat.le_of_ble_eq_true rfl) (by decide) ⟨by decide, by decide⟩ ?_
    rintro a9 σ9 ⟨ea9, hσ9⟩
    obtain rfl := hσ9.symm
    subst ea9
    refine g_icmp_ge (off := 55) (tgt := 67) (by decide +kernel) (by decide) ⟨by omega, by omega⟩ ⟨by omega, by omega⟩ (fun h12 => ?_) (fun h12 => ?_)
    · refine g_aload_n (i := 0) (by decide +kernel) rfl ?_
      refine g_getr f_Md_13 (by decide +kernel) (by omega) rfl rfl ?_
      refine g_iload_n (i := 1) (by decide +kernel) rfl ?_
      refine g_lload_n (i := 2) (by decide +kernel) rfl ?_
      refine g_last (j := q) (by decide +kernel) (by omega) rfl (by omega) (by omega) (by decide) ?_
      refine g_retV (by decide +kernel) rfl ⟨by decide, by decide⟩ ?_
      have ep : p = (zcnt (fun j => decide (S 2 j = (q : Int))) (zN S)) := by omega
      refine ⟨τ, ⟨ht.1, fun j g1 g2 g3 => ht.2.1 j g1 g2 ?_, fun j g => ht.2.2 j (fun y => g ⟨y.1, y.2.1, by have := (hv.2.2.2.2.1 j y.1).2.1; push_cast; omega⟩)⟩, ?_⟩
      · have z := hv.2.2.2.2.1 j g1
        have w := (zpl_iff hv (q : Int) (S 3 j).toNat).mp (by rw [show (((S 3 j).toNat : Nat) : Int) = S 3 j by omega, ← g2, z.2.2]; omega)
        omega
      · have c12 : p ≤ 12 := by omega
        have rest : zEn S ac q (p + (12 - p)) = zEn S ac q p := zEn_rest (fun p' hp' => by
          by_cases z : zch S q (p' : Int) = -1
          · exact z
          · have := (zpl_iff hv (q : Int) p').mp z
            omega) _
        rw [show p + (12 - p) = 12 by omega] at rest
        rw [rest, e2]
    · refine g_aload_n (i := 0) (by decide +kernel) rfl ?_
      refine g_iload_n (i := 1) (by decide +kernel) rfl ?_
      refine g_iload (i := 4) (by decide +kernel) rfl ?_
      refine g_cVI (st := _) (c_Md_inPlace (q := (q : Int)) (p := (p : Int)) hn hT ⟨by omega, by omega⟩ ⟨by omega, by omega⟩) k_Md_inPlace l_Md_176 (by decide +kernel) (by omega) rfl rfl rfl rfl (Nat.le_of_ble_eq_true rfl) (by decide) ⟨by decide, by decide⟩ ?_
      rintro a9 σ9 ⟨ea9, hσ9⟩
      obtain rfl := hσ9.symm
      obtain ⟨k, ek, hkN, hk2, hk3⟩ := (zch_lt S q p).resolve_left (pi.mpr (by omega))
      obtain rfl : a9 = (k : Int) := by rw [ea9, ek]
      have e6 := hT.mu hkN
      have r6 := (hT.rg (show k < 12 by omega)).2.2.2.2.2
      have e9 : τ 192 k = ac k := by rw [ht.1 192 (by decide)]; exact hA k hkN hk2
      have es := zEn_s S ac q p
      rw [if_neg (by omega), ek, Int.toNat_natCast] at es
      have st1 := zRw_step (v := x2 + τ 190 (170 + k)) hv ht ek ⟨hkN, hk2, hk3⟩ (by rw [e2, e6])
      refine g_istore (i := 5) (L' := [(0, _), (1, _), (2, _), (4, _), (5, _)]) (by decide +kernel) rfl rfl ?_
      refine g_aload_n (i := 0) (by decide +kernel) rfl ?_
      refine g_getr f_Md_20 (by decide +kernel) (by omega) rfl rfl ?_
      refine g_iload (i := 5) (by decide +kernel) rfl ?_
      refine g_lload_n (i := 2) (by decide +kernel) rfl ?_
      refine g_aload_n (i := 0) (by decide +kernel) rfl ?_
      refine g_getr f_Md_7 (by decide +kernel) (by omega) rfl rfl ?_
      refine g_sipush (a := 170) (by decide +kernel) (by decide) ?_
      refine g_iload (i := 5) (by decide +kernel) rfl ?_
      refine g_iadd (by decide +kernel) ?_
      refine g_iald (j := (170 + k)) (by decide +kernel) (by omega) rfl (by omega) (by omega) (by decide) ?_
      refine g_i2l (by decide +kernel) ⟨by omega, by omega⟩ ?_
      refine g_ladd (by decide +kernel) ?_
      refine g_last (j := k) (by decide +kernel) (by omega) rfl (by omega) (by omega) (by decide) ?_
      refine g_aload_n (i := 0) (by decide +kernel) rfl ?_
      refine g_getr f_Md_20 (by decide +kernel) (by omega) rfl rfl ?_
      refine g_iload (i := 5) (by decide +kernel) rfl ?_
      refine g_lald (j := k) (by decide +kernel) (by omega) rfl (by omega) (by omega) (by decide) ?_
      refine g_aload_n (i := 0) (by decide +kernel) rfl ?_
      refine g_getr f_Md_17 (by decide +kernel) (by omega) rfl rfl ?_
      refine g_iload (i := 5) (by decide +kernel) rfl ?_
      refine g_lald (j := k) (by decide +kernel) (by omega) rfl (by omega) (by omega) (by decide) ?_
      refine g_ladd (by decide +kernel) ?_
      refine g_lstore_n (i := 2) (L' := [(0, _), (1, _), (2, _), (4, _), (5, _)]) (by decide +kernel) rfl rfl ?_
      refine g_iinc (i := 4) (b := 1) (L' := [(0, _), (1, _), (2, _), (4, _), (5, _)]) (by decide +kernel) rfl rfl rfl ?_
      refine g_goto (off := -59) (tgt := 5) (by decide +kernel) (by decide) ?_
      exact ih (p + 1) _ _ _ [(5, vi (k : Int))] (by push_cast; omega) (by rw [es, zs_eq, zs_other (show 192 ≠ 193 by decide), e9, e6, e2]) st1 (Or.inr ⟨_, rfl⟩) (by omega) (by omega)
theorem c_Md_laysRow {G : zG} {n : Nat} {σ : zSt} {S : zSt} {d r : Nat → Nat} {q : Nat} {ac : Nat → Int} (hn : 220 ≤ n) (hS : zMc σ S) (hv : zVal S d r) (hq : q < zN S) (hA : ∀ j, j < zN S → S 2 j = q → σ 192 j = ac j)  : Gm G y_Md_laysRow m_Md_laysRow 2 0 0 [vr G 189, vi (q : Int)] n SH σ (zV n SH (fun σ' => ∃ τ, zRw σ τ S ac q 12 ∧ σ' = zs τ 191 q (zEn S ac q 12))) := by
  refine g_enter (L := [(0, _), (1, _)]) (by decide) rfl rfl rfl (Nat.le_of_ble_eq_true rfl) (fun X => ?_)
  refine g_lconst (c := 0) (a := 0) (by decide +kernel) (by decide) ?_
  refine g_lstore_n (i := 2) (L' := [(0, _), (1, _), (2, _)]) (by decide +kernel) rfl rfl ?_
  refine g_iconst (a := 0) (by decide +kernel) ?_
  refine g_istore (i := 4) (L' := [(0, _), (1, _), (2, _), (4, _)]) (by decide +kernel) rfl rfl ?_
  exact w_Md_laysRow hn hS hv hq hA ((zcnt (fun j => decide (S 2 j = (q : Int))) (zN S)) + 1) 0 _ _ σ [] rfl rfl ⟨fun _ _ => rfl, fun j g1 _ g3 => by have := (hv.2.2.2.2.1 j g1).1; omega, fun _ _ => rfl⟩ (Or.inl rfl) (by omega) (by omega)
