theorem w3_Md_lose {G : zG} {X : zX} {n : Nat} {σ : zSt} {τ φ ω : zSt} {d r : Nat → Nat} {k : Nat} {S : zSt} (hn : 220 ≤ n) (hF : zFine S) (hS : zMc σ S) (hk : 0 ≤ σ 189 1 ∧ σ 189 1 ≤ 8) (hv : zVal S d r) (kN : k < zN S) (a0 : zAF σ τ) (s0 : τ 189 2 = 0) (c0 : τ 190 = σ 190) (k0 : τ 189 1 = σ 189 1) (ck5 : zHid (¬ ((k : Int) = 0 ∧ 1 < S 0 0))) (hno : ∀ i, i < zN S → zby (S 4 i) = true → S 5 i ≠ (k : Int)) (hφ : (∀ a, a ≠ 189 → a ≠ 190 → φ a = τ a) ∧ (∀ j, j ≠ 1 → φ 189 j = τ 189 j) ∧ (∀ j, (j < 194 ∨ 1746 ≤ j) → φ 190 j = τ 190 j) ∧ zPsh τ φ 0) (hω : (∀ a, a ≠ 190 → a ≠ 201 → ω a = φ a) ∧ ∀ j, j < zN S → ω 201 j = (if zKe S k j = true then (zcnt (zKe S k) j : Int) else -1))  : ∀ (m : Nat) (i : Nat) (x2 : Int) (χ : zSt), x2 = (i : Int) → (∀ a, a ≠ 190 → χ a = ω a) → χ 190 = zplr (φ 190) S k i → i ≤ zN S → zN S < i + m → Go G X m_Md_lose (4, 0, 0, 0, 0) n SH χ 148 [(0, vr G 189), (1, vi (k : Int)), (2, vi x2)] [] (zI n SH (fun a σ' => ∀ S' : zSt, (((if ¬ (0 ≤ (k : Int) ∧ (k : Int) < S 0 0) then 2 else if (k : Int) = 0 ∧ 1 < S 0 0 then 5 else if zany (fun j => zby (S 4 j) && decide (S 5 j = (k : Int))) (zN S) = true then 6 else 0) : Int) = 0 → zLos S S' k ∧ zFine S') → zAcM σ σ' a (if ¬ (0 ≤ (k : Int) ∧ (k : Int) < S 0 0) then 2 else if (k : Int) = 0 ∧ 1 < S 0 0 then 5 else if zany (fun j => zby (S 4 j) && decide (S 5 j = (k : Int))) (zN S) = true then 6 else 0) (S' 0 0) S S')) := by
  intro m
  induction m with
  | zero => intro i x2 χ e2 hχ hr hi hm; exact absurd hm (by omega)
  | succ m ih =>
    intro i x2 χ e2 hχ hr hi hm
    have hN := hS.N
    have hz : zN S = (S 0 0).toNat := rfl
    have cl := zcnt_le (zKe S k) (zN S)
    subst e2
    have Eφ : zEqv S (zMw (φ 190) 0) := zMw_blk hS.b (c := σ 190) (o := 0) (fun j hj => by rw [hφ.2.2.1 _ (by omega), c0]) hS.1
    have hM : zMc φ S := ⟨Eφ, hS.2⟩
    have lo : ∀ j, (j < 26 ∨ 26 + i ≤ j) → χ 190 j = φ 190 j := fun j hj => by rw [hr]; unfold zplr; rw [if_neg (by omega)]
    have n0 : χ 190 0 = S 0 0 := by rw [lo 0 (by omega)]; exact hM.n
    have ar : ∀ j, j < zN S → χ 190 (14 + j) = S 2 j := fun j hj => by rw [lo _ (by omega)]; exact hM.ar hj
    have ak := ar k kN
    have kr := hS.rg (show k < 12 by omega)
    have pk : χ 190 (26 + k) = S 3 k := by
      by_cases z : k < i
      · rw [hr]; unfold zplr; rw [if_pos (by omega), show 26 + k - 26 = k by omega]; unfold zpl; rw [if_neg (fun y => by have := y.2; omega)]
      · rw [lo _ (by omega)]; exact hM.pl kN
    refine g_iload_n (i := 2) (by decide +kernel) rfl ?_
    refine g_aload_n (i := 0) (by decide +kernel) rfl ?_
    refine g_cVI (st := _) (c_Md_clips hn) k_Md_clips l_Md_148 (by decide +kernel) (by omega) rfl rfl rfl rfl (Nat.le_of_ble_eq_true rfl) (by decide) ⟨by decide, by decide⟩ ?_
    rintro b0 σ9 ⟨eb0, hσ9⟩
    obtain rfl := hσ9.symm
    rw [n0] at eb0
    subst eb0
    refine g_icmp_ge (off := 65) (tgt := 218) (by decide +kernel) (by decide) ⟨by omega, by omega⟩ ⟨by omega, by omega⟩ (fun h153 => ?_) (fun h153 => ?_)
    · refine g_aload_n (i := 0) (by decide +kernel) rfl ?_
      refine g_cVI (st := _) (c_Md_clips hn) k_Md_clips l_Md_148 (by decide +kernel) (by omega) rfl rfl rfl rfl (Nat.le_of_ble_eq_true rfl) (by decide) ⟨by decide, by decide⟩ ?_
      rintro b0 σ9 ⟨eb0, hσ9⟩
      obtain rfl := hσ9.symm
      rw [n0] at eb0
      subst eb0
      refine g_istore_n (i := 2) (L' := [(0, _), (1, _), (2, _)]) (by decide +kernel) rfl rfl ?_
      refine g_iconst (a := 0) (by decide +kernel) ?_
      refine g_istore_n (i := 3) (L' := [(0, _), (1, _), (2, _), (3, _)]) (by decide +kernel) rfl rfl ?_
      refine g_iconst (a := 0) (by decide +kernel) ?_
      refine g_istore (i := 4) (L' := [(0, _), (1, _), (2, _), (3, _), (4, _)]) (by decide +kernel) rfl rfl ?_
      obtain rfl : i = zN S := by omega
      refine w4_Md_lose hn hF hS hk hv kN a0 s0 c0 k0 ck5 hno hφ hω (zN S + 1) 0 _ _ χ rfl rfl hχ ?_ (by omega) (by omega)
      rw [hr]
      exact zLi2_0 hS.b Eφ
    · have iN : i < zN S := by omega
      have ai := ar i iN
      have ir := hS.rg (show i < 12 by omega)
      have pi : χ 190 (26 + i) = S 3 i := by rw [lo _ (by omega)]; exact hM.pl iN
      have NX : ∀ v : Int, v = zpl S 0 k i → Go G X m_Md_lose (4, 0, 0, 0, 0) n SH χ 211 [(0, vr G 189), (1, vi (k : Int)), (2, vi (i : Int))] [vi v, vi (26 + (i : Int)), vr G 190] (zI n SH (fun a σ' => ∀ S' : zSt, (((if ¬ (0 ≤ (k : Int) ∧ (k : Int) < S 0 0) then 2 else if (k : Int) = 0 ∧ 1 < S 0 0 then 5 else if zany (fun j => zby (S 4 j) && decide (S 5 j = (k : Int))) (zN S) = true then 6 else 0) : Int) = 0 → zLos S S' k ∧ zFine S') → zAcM σ σ' a (if ¬ (0 ≤ (k : Int) ∧ (k : Int) < S 0 0) then 2 else if (k : Int) = 0 ∧ 1 < S 0 0 then 5 else if zany (fun j => zby (S 4 j) && decide (S 5 j = (k : Int))) (zN S) = true then 6 else 0) (S' 0 0) S S')) := by
        intro v ev
        refine g_iast (j := (26 + i)) (by decide +kernel) (by omega) rfl (by omega) (by omega) (by decide) ?_
        refine g_iinc (i := 2) (b := 1) (L' := [(0, _), (1, _), (2, _)]) (by decide +kernel) rfl rfl rfl ?_
        refine g_goto (off := -67) (tgt := 148) (by decide +kernel) (by decide) ?_
        exact ih (i + 1) _ _ (by push_cast; rfl) (fun a ha => by rw [zs_other ha]; exact hχ a ha) (by rw [zs_row, hr, zplr_s _ _ _ _ ev]) (by omega) (by omega)
      refine g_aload_n (i := 0) (by decide +kernel) rfl ?_
      refine g_getr f_Md_7 (by decide +kernel) (by omega) rfl rfl ?_
      refine g_bipush (a := 26) (by decide +kernel) (by decide) ?_
      refine g_iload_n (i := 2) (by decide +kernel) rfl ?_
      refine g_iadd (by decide +kernel) ?_
      refine g_dup2 (by decide +kernel) rfl rfl ?_
      refine g_iald (j := (26 + i)) (by decide +kernel) (by omega) rfl (by omega) (by omega) (by decide) ?_
      rw [pi]
      refine g_aload_n (i := 0) (by decide +kernel) rfl ?_
      refine g_iload_n (i := 2) (by decide +kernel) rfl ?_
      refine g_cVI (st := _) (c_Md_around (k := i) hn (by omega)) k_Md_around l_Md_169 (by decide +kernel) (by omega) rfl rfl rfl rfl (Nat.le_of_ble_eq_true rfl) (by decide) ⟨by decide, by decide⟩ ?_
      rintro a9 σ9 ⟨ea9, hσ9⟩
      obtain rfl := hσ9.symm
      rw [ai] at ea9
      subst ea9
      refine g_aload_n (i := 0) (by decide +kernel) rfl ?_
      refine g_iload_n (i := 1) (by decide +kernel) rfl ?_
      refine g_cVI (st := _) (c_Md_around (k := k) hn (by omega)) k_Md_around l_Md_169 (by decide +kernel) (by omega) rfl rfl rfl rfl (Nat.le_of_ble_eq_true rfl) (by decide) ⟨by decide, by decide⟩ ?_
      rintro a9 σ9 ⟨ea9, hσ9⟩
      obtain rfl := hσ9.symm
      rw [ak] at ea9
      subst ea9
      refine g_icmp_ne (off := 33) (tgt := 209) (by decide +kernel) (by decide) ⟨by omega, by omega⟩ ⟨by omega, by omega⟩ (fun h176 => ?_) (fun h176 => ?_)
      · refine g_iconst (a := 0) (by decide +kernel) ?_
        refine g_isub (by decide +kernel) ?_
        refine NX _ ?_
        show _ = (if S (0 + 2) i = S (0 + 2) k ∧ S (0 + 3) k < S (0 + 3) i then S (0 + 3) i - 1 else S (0 + 3) i)
        simp only [Nat.zero_add]
        first
          | (exfalso
             have e : i = k := by omega
             have hz := h197
             rw [e] at hz
             omega)
          | (rw [if_pos ⟨by omega, by omega⟩])
          | (rw [if_neg (fun y => by omega)]; omega)
          | (have e : i = k := by omega
             rw [if_neg (fun y => by rw [e] at y; omega)]; omega)
      · refine g_aload_n (i := 0) (by decide +kernel) rfl ?_
        refine g_getr f_Md_7 (by decide +kernel) (by omega) rfl rfl ?_
        refine g_bipush (a := 26) (by decide +kernel) (by decide) ?_
        refine g_iload_n (i := 2) (by decide +kernel) rfl ?_
        refine g_iadd (by decide +kernel) ?_
        refine g_iald (j := (26 + i)) (by decide +kernel) (by omega) rfl (by omega) (by omega) (by decide) ?_
        rw [pi]
        refine g_aload_n (i := 0) (by decide +kernel) rfl ?_
        refine g_getr f_Md_7 (by decide +kernel) (by omega) rfl rfl ?_
        refine g_bipush (a := 26) (by decide +kernel) (by decide) ?_
        refine g_iload_n (i := 1) (by decide +kernel) rfl ?_
        refine g_iadd (by decide +kernel) ?_
        refine g_iald (j := (26 + k)) (by decide +kernel) (by omega) rfl (by omega) (by omega) (by decide) ?_
        rw [pk]
        refine g_icmp_le (off := 12) (tgt := 209) (by decide +kernel) (by decide) ⟨by omega, by omega⟩ ⟨by omega, by omega⟩ (fun h197 => ?_) (fun h197 => ?_)
        · refine g_iconst (a := 0) (by decide +kernel) ?_
          refine g_isub (by decide +kernel) ?_
          refine NX _ ?_
          show _ = (if S (0 + 2) i = S (0 + 2) k ∧ S (0 + 3) k < S (0 + 3) i then S (0 + 3) i - 1 else S (0 + 3) i)
          simp only [Nat.zero_add]
          first
            | (exfalso
               have e : i = k := by omega
               have hz := h197
               rw [e] at hz
               omega)
            | (rw [if_pos ⟨by omega, by omega⟩])
            | (rw [if_neg (fun y => by omega)]; omega)
            | (have e : i = k := by omega
               rw [if_neg (fun y => by rw [e] at y; omega)]; omega)
        · refine g_iload_n (i := 2) (by decide +kernel) rfl ?_
          refine g_iload_n (i := 1) (by decide +kernel) rfl ?_
          refine g_icmp_eq (off := 7) (tgt := 209) (by decide +kernel) (by decide) ⟨by omega, by omega⟩ ⟨by omega, by omega⟩ (fun h202 => ?_) (fun h202 => ?_)
          · refine g_iconst (a := 0) (by decide +kernel) ?_
            refine g_isub (by decide +kernel) ?_
            refine NX _ ?_
            show _ = (if S (0 + 2) i = S (0 + 2) k ∧ S (0 + 3) k < S (0 + 3) i then S (0 + 3) i - 1 else S (0 + 3) i)
            simp only [Nat.zero_add]
            first
              | (exfalso
                 have e : i = k := by omega
                 have hz := h197
                 rw [e] at hz
                 omega)
              | (rw [if_pos ⟨by omega, by omega⟩])
              | (rw [if_neg (fun y => by omega)]; omega)
              | (have e : i = k := by omega
                 rw [if_neg (fun y => by rw [e] at y; omega)]; omega)
          · refine g_iconst (a := 1) (by decide +kernel) ?_
            refine g_goto (off := 4) (tgt := 210) (by decide +kernel) (by decide) ?_
            refine g_isub (by decide +kernel) ?_
            refine NX _ ?_
            show _ = (if S (0 + 2) i = S (0 + 2) k ∧ S (0 + 3) k < S (0 + 3) i then S (0 + 3) i - 1 else S (0 + 3) i)
            simp only [Nat.zero_add]
            first
              | (exfalso
                 have e : i = k := by omega
                 have hz := h197
                 rw [e] at hz
                 omega)
              | (rw [if_pos ⟨by omega, by omega⟩])
              | (rw [if_neg (fun y => by omega)]; omega)
              | (have e : i = k := by omega
                 rw [if_neg (fun y => by rw [e] at y; omega)]; omega)
theorem w2_Md_lose {G : zG} {X : zX} {n : Nat} {σ : zSt} {τ φ : zSt} {d r : Nat → Nat} {k : Nat} {S : zSt} (hn : 220 ≤ n) (hF : zFine S) (hS : zMc σ S) (hk : 0 ≤ σ 189 1 ∧ σ 189 1 ≤ 8) (hv : zVal S d r) (kN : k < zN S) (a0 : zAF σ τ) (s0 : τ 189 2 = 0) (c0 : τ 190 = σ 190) (k0 : τ 189 1 = σ 189 1) (ck5 : zHid (¬ ((k : Int) = 0 ∧ 1 < S 0 0))) (hno : ∀ i, i < zN S → zby (S 4 i) = true → S 5 i ≠ (k : Int)) (hφ : (∀ a, a ≠ 189 → a ≠ 190 → φ a = τ a) ∧ (∀ j, j ≠ 1 → φ 189 j = τ 189 j) ∧ (∀ j, (j < 194 ∨ 1746 ≤ j) → φ 190 j = τ 190 j) ∧ zPsh τ φ 0)  : ∀ (m : Nat) (i : Nat) (x2 : Int) (ω : zSt), x2 = (i : Int) → (∀ a, a ≠ 201 → ω a = φ a) → (∀ j, j < i → ω 201 j = (if zKe S k j = true then (zcnt (zKe S k) j : Int) else -1)) → i ≤ zN S → zN S < i + m → Go G X m_Md_lose (4, 0, 0, 0, 0) n SH ω 107 [(0, vr G 189), (1, vi (k : Int)), (2, vi x2)] [] (zI n SH (fun a σ' => ∀ S' : zSt, (((if ¬ (0 ≤ (k : Int) ∧ (k : Int) < S 0 0) then 2 else if (k : Int) = 0 ∧ 1 < S 0 0 then 5 else if zany (fun j => zby (S 4 j) && decide (S 5 j = (k : Int))) (zN S) = true then 6 else 0) : Int) = 0 → zLos S S' k ∧ zFine S') → zAcM σ σ' a (if ¬ (0 ≤ (k : Int) ∧ (k : Int) < S 0 0) then 2 else if (k : Int) = 0 ∧ 1 < S 0 0 then 5 else if zany (fun j => zby (S 4 j) && decide (S 5 j = (k : Int))) (zN S) = true then 6 else 0) (S' 0 0) S S')) := by
  intro m
  induction m with
  | zero => intro i x2 ω e2 hw hq hi hm; exact absurd hm (by omega)
  | succ m ih =>
    intro i x2 ω e2 hw hq hi hm
    have hN := hS.N
    have hz : zN S = (S 0 0).toNat := rfl
    have cl := zcnt_le (zKe S k) (zN S)
    subst e2
    have Eφ : zEqv S (zMw (φ 190) 0) := zMw_blk hS.b (c := σ 190) (o := 0) (fun j hj => by rw [hφ.2.2.1 _ (by omega), c0]) hS.1
    have hM : zMc φ S := ⟨Eφ, hS.2⟩
    have hW : zMc ω S := hM.moved (hw 190 (by decide))
    have n0 : ω 190 0 = S 0 0 := hW.n
    refine g_iload_n (i := 2) (by decide +kernel) rfl ?_
    refine g_aload_n (i := 0) (by decide +kernel) rfl ?_
    refine g_cVI (st := _) (c_Md_clips hn) k_Md_clips l_Md_148 (by decide +kernel) (by omega) rfl rfl rfl rfl (Nat.le_of_ble_eq_true rfl) (by decide) ⟨by decide, by decide⟩ ?_
    rintro b0 σ9 ⟨eb0, hσ9⟩
    obtain rfl := hσ9.symm
    rw [n0] at eb0
    subst eb0
    refine g_icmp_ge (off := 34) (tgt := 146) (by decide +kernel) (by decide) ⟨by omega, by omega⟩ ⟨by omega, by omega⟩ (fun h112 => ?_) (fun h112 => ?_)
    · refine g_iconst (a := 0) (by decide +kernel) ?_
      refine g_istore_n (i := 2) (L' := [(0, _), (1, _), (2, _)]) (by decide +kernel) rfl rfl ?_
      obtain rfl : i = zN S := by omega
      exact w3_Md_lose hn hF hS hk hv kN a0 s0 c0 k0 ck5 hno hφ ⟨fun a _ h2 => hw a h2, hq⟩ (zN S + 1) 0 _ ω rfl (fun _ _ => rfl) (by rw [zplr_0, hw 190 (by decide)]) (by omega) (by omega)
    · have iN : i < zN S := by omega
      have NX : ∀ v : Int, v = (if zKe S k i = true then (zcnt (zKe S k) i : Int) else -1) → Go G X m_Md_lose (4, 0, 0, 0, 0) n SH ω 139 [(0, vr G 189), (1, vi (k : Int)), (2, vi (i : Int))] [vi v, vi (i : Int), vr G 201] (zI n SH (fun a σ' => ∀ S' : zSt, (((if ¬ (0 ≤ (k : Int) ∧ (k : Int) < S 0 0) then 2 else if (k : Int) = 0 ∧ 1 < S 0 0 then 5 else if zany (fun j => zby (S 4 j) && decide (S 5 j = (k : Int))) (zN S) = true then 6 else 0) : Int) = 0 → zLos S S' k ∧ zFine S') → zAcM σ σ' a (if ¬ (0 ≤ (k : Int) ∧ (k : Int) < S 0 0) then 2 else if (k : Int) = 0 ∧ 1 < S 0 0 then 5 else if zany (fun j => zby (S 4 j) && decide (S 5 j = (k : Int))) (zN S) = true then 6 else 0) (S' 0 0) S S')) := by
        intro v ev
        refine g_iast (j := i) (by decide +kernel) (by omega) rfl rfl (by omega) (by decide) ?_
        refine g_iinc (i := 2) (b := 1) (L' := [(0, _), (1, _), (2, _)]) (by decide +kernel) rfl rfl rfl ?_
        refine g_goto (off := -36) (tgt := 107) (by decide +kernel) (by decide) ?_
        refine ih (i + 1) _ _ (by push_cast; rfl) (fun a ha => by rw [zs_other ha]; exact hw a ha) (fun j hj => ?_) (by omega) (by omega)
        by_cases z : j = i
        · rw [z, zs_eq]; exact ev
        · rw [zs_ne (fun y => z y.2)]; exact hq j (by omega)
      refine g_aload_n (i := 0) (by decide +kernel) rfl ?_
      refine g_getr f_Md_85 (by decide +kernel) (by omega) rfl rfl ?_
      refine g_iload_n (i := 2) (by decide +kernel) rfl ?_
      refine g_aload_n (i := 0) (by decide +kernel) rfl ?_
      refine g_iload_n (i := 2) (by decide +kernel) rfl ?_
      refine g_iload_n (i := 1) (by decide +kernel) rfl ?_
      refine g_cVI (st := _) (c_Md_isWithin (k := i) (q := k) hn hW hv (by omega) (by omega)) k_Md_isWithin l_Md_326 (by decide +kernel) (by omega) rfl rfl rfl rfl (Nat.le_of_ble_eq_true rfl) (by decide) ⟨by decide, by decide⟩ ?_
      rintro a9 σ9 ⟨ea9, hσ9⟩
      obtain rfl := hσ9.symm
      subst ea9
      refine g_if_eq (off := 7) (tgt := 133) (by decide +kernel) (by decide) zbr (fun h126 => ?_) (fun h126 => ?_)
      · have h126 := zb0.mp h126
        refine g_aload_n (i := 0) (by decide +kernel) rfl ?_
        refine g_iload_n (i := 2) (by decide +kernel) rfl ?_
        refine g_iload_n (i := 1) (by decide +kernel) rfl ?_
        refine g_cVI (st := _) (c_Md_numberBehind (k := i) (q := k) hn hW hv (by omega) (by omega)) k_Md_numberBehind l_Md_329 (by decide +kernel) (by omega) rfl rfl rfl rfl (Nat.le_of_ble_eq_true rfl) (by decide) ⟨by decide, by decide⟩ ?_
        rintro a9 σ9 ⟨ea9, hσ9⟩
        obtain rfl := hσ9.symm
        first
          | (have z : zwi (S 2) k 12 i = true := h126
             exact NX _ (by rw [if_neg]; unfold zKe; rw [z]; decide))
          | (have z : ¬ zwi (S 2) k 12 i = true := h126
             exact NX _ (by rw [if_pos (by unfold zKe; rw [Bool.eq_false_iff.mpr z]; rfl)]; exact ea9))
      · have h126 := zb1.mp h126
        refine g_iconst (a := -1) (by decide +kernel) ?_
        refine g_goto (off := 9) (tgt := 139) (by decide +kernel) (by decide) ?_
        first
          | (have z : zwi (S 2) k 12 i = true := h126
             exact NX _ (by rw [if_neg]; unfold zKe; rw [z]; decide))
          | (have z : ¬ zwi (S 2) k 12 i = true := h126
             exact NX _ (by rw [if_pos (by unfold zKe; rw [Bool.eq_false_iff.mpr z]; rfl)]; exact ea9))
theorem w1_Md_lose {G : zG} {X : zX} {n : Nat} {σ : zSt} {τ : zSt} {d r : Nat → Nat} {k : Nat} {S : zSt} (hn : 220 ≤ n) (hF : zFine S) (hS : zMc σ S) (hk : 0 ≤ σ 189 1 ∧ σ 189 1 ≤ 8) (hv : zVal S d r) (kN : k < zN S) (a0 : zAF σ τ) (s0 : τ 189 2 = 0) (c0 : τ 190 = σ 190) (k0 : τ 189 1 = σ 189 1) (ck5 : zHid (¬ ((k : Int) = 0 ∧ 1 < S 0 0)))  : ∀ (m : Nat) (i : Nat) (x2 : Int), x2 = (i : Int) → (∀ j, j < i → ¬ (zby (S 4 j) = true ∧ S 5 j = (k : Int))) → i ≤ zN S → zN S < i + m → Go G X m_Md_lose (4, 0, 0, 0, 0) n SH τ 44 [(0, vr G 189), (1, vi (k : Int)), (2, vi x2)] [] (zI n SH (fun a σ' => ∀ S' : zSt, (((if ¬ (0 ≤ (k : Int) ∧ (k : Int) < S 0 0) then 2 else if (k : Int) = 0 ∧ 1 < S 0 0 then 5 else if zany (fun j => zby (S 4 j) && decide (S 5 j = (k : Int))) (zN S) = true then 6 else 0) : Int) = 0 → zLos S S' k ∧ zFine S') → zAcM σ σ' a (if ¬ (0 ≤ (k : Int) ∧ (k : Int) < S 0 0) then 2 else if (k : Int) = 0 ∧ 1 < S 0 0 then 5 else if zany (fun j => zby (S 4 j) && decide (S 5 j = (k : Int))) (zN S) = true then 6 else 0) (S' 0 0) S S')) := by
  intro m
  induction m with
  | zero => intro i x2 e2 hb hi hm; exact absurd hm (by omega)
  | succ m ih =>
    intro i x2 e2 hb hi hm
    have hN := hS.N
    have hz : zN S = (S 0 0).toNat := rfl
    have cl := zcnt_le (zKe S k) (zN S)
    subst e2
    have hT : zMc τ S := hS.moved c0
    have n0 : τ 190 0 = S 0 0 := hT.n
    refine g_iload_n (i := 2) (by decide +kernel) rfl ?_
    refine g_aload_n (i := 0) (by decide +kernel) rfl ?_
    refine g_cVI (st := _) (c_Md_clips hn) k_Md_clips l_Md_148 (by decide +kernel) (by omega) rfl rfl rfl rfl (Nat.le_of_ble_eq_true rfl) (by decide) ⟨by decide, by decide⟩ ?_
    rintro b0 σ9 ⟨eb0, hσ9⟩
    obtain rfl := hσ9.symm
    rw [n0] at eb0
    subst eb0
    refine g_icmp_ge (off := 52) (tgt := 101) (by decide +kernel) (by decide) ⟨by omega, by omega⟩ ⟨by omega, by omega⟩ (fun h49 => ?_) (fun h49 => ?_)
    · refine g_aload_n (i := 0) (by decide +kernel) rfl ?_
      refine g_cVV (st := _) (c_Md_keeps hn (by rw [k0]; exact hk)) k_Md_keeps l_Md_323 (by decide +kernel) (by omega) rfl rfl rfl rfl (Nat.le_of_ble_eq_true rfl) (by decide) ⟨by decide, by decide⟩ ?_
      rintro φ hφ
      refine g_iconst (a := 0) (by decide +kernel) ?_
      refine g_istore_n (i := 2) (L' := [(0, _), (1, _), (2, _)]) (by decide +kernel) rfl rfl ?_
      obtain rfl : i = zN S := by omega
      exact w2_Md_lose hn hF hS hk hv kN a0 s0 c0 k0 ck5 (fun j hj b y => hb j hj ⟨b, y⟩) hφ (zN S + 1) 0 _ φ rfl (fun _ _ => rfl) (fun j hj => by omega) (by omega) (by omega)
    · have iN : i < zN S := by omega
      have ii := zLo_iff hv kN iN
      have h4 := hT.hw iN
      have h5 := hT.ot iN
      have ir := hS.rg (show i < 12 by omega)
      have h4b : τ 190 (0 + 146 + i) = S 4 i := by rw [Nat.zero_add]; exact h4
      refine g_aload_n (i := 0) (by decide +kernel) rfl ?_
      refine g_iload_n (i := 2) (by decide +kernel) rfl ?_
      refine g_iload_n (i := 1) (by decide +kernel) rfl ?_
      refine g_cVI (st := _) (c_Md_isWithin (k := i) (q := k) hn hT hv (by omega) (by omega)) k_Md_isWithin l_Md_326 (by decide +kernel) (by omega) rfl rfl rfl rfl (Nat.le_of_ble_eq_true rfl) (by decide) ⟨by decide, by decide⟩ ?_
      rintro a9 σ9 ⟨ea9, hσ9⟩
      obtain rfl := hσ9.symm
      subst ea9
      refine g_if_ne (off := 37) (tgt := 95) (by decide +kernel) (by decide) zbr (fun h58 => ?_) (fun h58 => ?_)
      · have h58 := zb1.mp h58
        refine g_iinc (i := 2) (b := 1) (L' := [(0, _), (1, _), (2, _)]) (by decide +kernel) rfl rfl rfl ?_
        refine g_goto (off := -54) (tgt := 44) (by decide +kernel) (by decide) ?_
        refine ih (i + 1) _ (by push_cast; rfl) (fun j hj => ?_) (by omega) (by omega)
        by_cases z : j = i
        · rw [z]
          intro y
          have q := ii.mpr y
          first
            | (have hz : zwi (S 2) k 12 i = true := h58
               have q1 := q.1
               unfold zKe at q1
               rw [hz] at q1
               exact absurd q1 (by decide))
            | (have hz : ¬ zby (τ 190 (0 + 146 + i)) = true := h67
               rw [h4b] at hz
               exact hz y.1)
            | (have hz : ¬ zwi (S 2) k 12 o = true := h85
               rw [← to] at hz
               exact hz q.2.2)
        · exact hb j (by omega)
      · have h58 := zb0.mp h58
        refine g_aload_n (i := 0) (by decide +kernel) rfl ?_
        refine g_iconst (a := 0) (by decide +kernel) ?_
        refine g_iload_n (i := 2) (by decide +kernel) rfl ?_
        refine g_cVI (st := _) (c_Md_isByOther (b := 0) (k := i) hn (Or.inl rfl) (by omega) (by rw [h4b]; exact ⟨by omega, by omega⟩)) k_Md_isByOther l_Md_284 (by decide +kernel) (by omega) rfl rfl rfl rfl (Nat.le_of_ble_eq_true rfl) (by decide) ⟨by decide, by decide⟩ ?_
        rintro a9 σ9 ⟨ea9, hσ9⟩
        obtain rfl := hσ9.symm
        subst ea9
        refine g_if_eq (off := 28) (tgt := 95) (by decide +kernel) (by decide) zbr (fun h67 => ?_) (fun h67 => ?_)
        · have h67 := zb0.mp h67
          refine g_iinc (i := 2) (b := 1) (L' := [(0, _), (1, _), (2, _)]) (by decide +kernel) rfl rfl rfl ?_
          refine g_goto (off := -54) (tgt := 44) (by decide +kernel) (by decide) ?_
          refine ih (i + 1) _ (by push_cast; rfl) (fun j hj => ?_) (by omega) (by omega)
          by_cases z : j = i
          · rw [z]
            intro y
            have q := ii.mpr y
            first
              | (have hz : zwi (S 2) k 12 i = true := h58
                 have q1 := q.1
                 unfold zKe at q1
                 rw [hz] at q1
                 exact absurd q1 (by decide))
              | (have hz : ¬ zby (τ 190 (0 + 146 + i)) = true := h67
                 rw [h4b] at hz
                 exact hz y.1)
              | (have hz : ¬ zwi (S 2) k 12 o = true := h85
                 rw [← to] at hz
                 exact hz q.2.2)
          · exact hb j (by omega)
        · have h67 := zb1.mp h67
          have h67 : zby (S 4 i) = true := by rw [← h4b]; exact h67
          have oo := hv.oth iN h67
          obtain ⟨o, eo⟩ := Int.eq_ofNat_of_zero_le oo.1
          have to : (S 5 i).toNat = o := by omega
          refine g_aload_n (i := 0) (by decide +kernel) rfl ?_
          refine g_aload_n (i := 0) (by decide +kernel) rfl ?_
          refine g_getr f_Md_7 (by decide +kernel) (by omega) rfl rfl ?_
          refine g_sipush (a := 158) (by decide +kernel) (by decide) ?_
          refine g_iload_n (i := 2) (by decide +kernel) rfl ?_
          refine g_iadd (by decide +kernel) ?_
          refine g_iald (j := (158 + i)) (by decide +kernel) (by omega) rfl (by omega) (by omega) (by decide) ?_
          refine g_iload_n (i := 1) (by decide +kernel) rfl ?_
          rw [show τ 190 (158 + i) = (o : Int) by rw [h5]; exact eo]
          refine g_cVI (st := _) (c_Md_isWithin (k := o) (q := k) hn hT hv (by omega) (by omega)) k_Md_isWithin l_Md_326 (by decide +kernel) (by omega) rfl rfl rfl rfl (Nat.le_of_ble_eq_true rfl) (by decide) ⟨by decide, by decide⟩ ?_
          rintro a9 σ9 ⟨ea9, hσ9⟩
          obtain rfl := hσ9.symm
          subst ea9
          refine g_if_eq (off := 10) (tgt := 95) (by decide +kernel) (by decide) zbr (fun h85 => ?_) (fun h85 => ?_)
          · have h85 := zb0.mp h85
            refine g_iinc (i := 2) (b := 1) (L' := [(0, _), (1, _), (2, _)]) (by decide +kernel) rfl rfl rfl ?_
            refine g_goto (off := -54) (tgt := 44) (by decide +kernel) (by decide) ?_
            refine ih (i + 1) _ (by push_cast; rfl) (fun j hj => ?_) (by omega) (by omega)
            by_cases z : j = i
            · rw [z]
              intro y
              have q := ii.mpr y
              first
                | (have hz : zwi (S 2) k 12 i = true := h58
                   have q1 := q.1
                   unfold zKe at q1
                   rw [hz] at q1
                   exact absurd q1 (by decide))
                | (have hz : ¬ zby (τ 190 (0 + 146 + i)) = true := h67
                   rw [h4b] at hz
                   exact hz y.1)
                | (have hz : ¬ zwi (S 2) k 12 o = true := h85
                   rw [← to] at hz
                   exact hz q.2.2)
            · exact hb j (by omega)
          · have h85 := zb1.mp h85
            refine g_aload_n (i := 0) (by decide +kernel) rfl ?_
            refine g_bipush (a := 6) (by decide +kernel) (by decide) ?_
            refine g_cVI (st := _) (c_Md_refuse hn) k_Md_refuse l_Md_295 (by decide +kernel) (by omega) rfl rfl rfl rfl (Nat.le_of_ble_eq_true rfl) (by decide) ⟨by decide, by decide⟩ ?_
            rintro a9 σ9 ⟨ea9, hσ9⟩
            obtain rfl := ea9.symm
            subst hσ9
            refine g_retI (by decide +kernel) rfl (Or.inl rfl) ⟨by decide, by decide⟩ ?_
            intro S' hS'
            have hz : ¬ zwi (S 2) k 12 i = true := h58
            have hy : zwi (S 2) k 12 o = true := h85
            rw [← to] at hy
            have q := ii.mp ⟨by unfold zKe; rw [Bool.eq_false_iff.mpr hz]; rfl, h67, hy⟩
            refine zAcM.no0 a0 k0 c0 hS ?_ (by decide)
            rw [if_neg (fun y => y ⟨by omega, by omega⟩), if_neg ck5, if_pos (zany_t (i := i) (by rw [q.1, decide_eq_true q.2]; rfl) iN)]
theorem c_Md_lose {G : zG} {n : Nat} {σ : zSt} {c : Int} {S : zSt} (hn : 220 ≤ n) (hF : zFine S) (hS : zMc σ S) (hk : 0 ≤ σ 189 1 ∧ σ 189 1 ≤ 8) (z1 : zr c) : Gm G y_Md_lose m_Md_lose 4 0 0 [vr G 189, vi c] n SH σ (zI n SH (fun a σ' => ∀ S' : zSt, (((if ¬ (0 ≤ c ∧ c < S 0 0) then 2 else if c = 0 ∧ 1 < S 0 0 then 5 else if zany (fun j => zby (S 4 j) && decide (S 5 j = c)) (zN S) = true then 6 else 0) : Int) = 0 → zLos S S' c.toNat ∧ zFine S') → zAcM σ σ' a (if ¬ (0 ≤ c ∧ c < S 0 0) then 2 else if c = 0 ∧ 1 < S 0 0 then 5 else if zany (fun j => zby (S 4 j) && decide (S 5 j = c)) (zN S) = true then 6 else 0) (S' 0 0) S S')) := by
  refine g_enter (L := [(0, _), (1, _)]) (by decide) rfl rfl rfl (Nat.le_of_ble_eq_true rfl) (fun X => ?_)
  have e0 := hS.n
  have e8 := hS.p
  have hN := hS.N
  have hz : zN S = (S 0 0).toNat := rfl
  obtain ⟨z1a, z1b⟩ := id z1
  refine g_aload_n (i := 0) (by decide +kernel) rfl ?_
  refine g_iconst (a := 0) (by decide +kernel) ?_
  refine g_puti f_Md_142 (by decide +kernel) (by omega) rfl rfl ?_
  refine g_aload_n (i := 0) (by decide +kernel) rfl ?_
  refine g_iconst (a := 0) (by decide +kernel) ?_
  refine g_puti f_Md_145 (by decide +kernel) (by omega) rfl rfl ?_
  obtain ⟨τ, eτ⟩ : ∃ τ, τ = zs (zs σ 189 3 0) 189 2 0 := ⟨_, rfl⟩
  rw [← eτ]
  have a0 : zAF σ τ := by rw [eτ]; exact ((zAF.rf σ).put (by decide)).put (by decide)
  have s0 : τ 189 2 = 0 := by rw [eτ, zs_eq]
  have c0 : τ 190 = σ 190 := by rw [eτ, zs_other (by decide), zs_other (by decide)]
  have k0 : τ 189 1 = σ 189 1 := by rw [eτ, zs_ne (by decide), zs_ne (by decide)]
  have hT : zMc τ S := hS.moved c0
  have et := hT.n
  have ep := hT.p
  refine g_aload_n (i := 0) (by decide +kernel) rfl ?_
  refine g_iload_n (i := 1) (by decide +kernel) rfl ?_
  refine g_cVI (st := _) (c_Md_isClip (k := c) hn (by assumption) (by rw [hT.n]; omega)) k_Md_isClip l_Md_313 (by decide +kernel) (by omega) rfl rfl rfl rfl (Nat.le_of_ble_eq_true rfl) (by decide) ⟨by decide, by decide⟩ ?_
  rintro a9 σ9 ⟨ea9, hσ9⟩
  obtain rfl := hσ9.symm
  rw [hT.n] at ea9
  subst ea9
  refine g_if_ne (off := 9) (tgt := 24) (by decide +kernel) (by decide) zbr (fun h15 => ?_) (fun h15 => ?_)
  · have h15 := zb1.mp h15
    obtain ⟨k, rfl⟩ := Int.eq_ofNat_of_zero_le h15.1
    have kN : k < zN S := by omega
    obtain ⟨⟨d, r, hv⟩, -⟩ := id hF.1.2.1
    refine g_iload_n (i := 1) (by decide +kernel) rfl ?_
    refine g_if_ne (off := 17) (tgt := 42) (by decide +kernel) (by decide) ⟨by omega, by omega⟩ (fun h25 => ?_) (fun h25 => ?_)
    · refine g_iconst (a := 0) (by decide +kernel) ?_
      refine g_istore_n (i := 2) (L' := [(0, _), (1, _), (2, _)]) (by decide +kernel) rfl rfl ?_
      rw [Int.toNat_natCast]
      exact w1_Md_lose hn hF hS hk hv kN a0 s0 c0 k0 (show ¬ _ by omega) (zN S + 1) 0 _ rfl (fun j hj => by omega) (by omega) (by omega)
    · refine g_aload_n (i := 0) (by decide +kernel) rfl ?_
      refine g_cVI (st := _) (c_Md_clips hn) k_Md_clips l_Md_148 (by decide +kernel) (by omega) rfl rfl rfl rfl (Nat.le_of_ble_eq_true rfl) (by decide) ⟨by decide, by decide⟩ ?_
      rintro b0 σ9 ⟨eb0, hσ9⟩
      obtain rfl := hσ9.symm
      rw [hT.n] at eb0
      subst eb0
      refine g_iconst (a := 1) (by decide +kernel) ?_
      refine g_icmp_le (off := 9) (tgt := 42) (by decide +kernel) (by decide) ⟨by omega, by omega⟩ ⟨by omega, by omega⟩ (fun h33 => ?_) (fun h33 => ?_)
      · refine g_iconst (a := 0) (by decide +kernel) ?_
        refine g_istore_n (i := 2) (L' := [(0, _), (1, _), (2, _)]) (by decide +kernel) rfl rfl ?_
        rw [Int.toNat_natCast]
        exact w1_Md_lose hn hF hS hk hv kN a0 s0 c0 k0 (show ¬ _ by omega) (zN S + 1) 0 _ rfl (fun j hj => by omega) (by omega) (by omega)
      · refine g_aload_n (i := 0) (by decide +kernel) rfl ?_
        refine g_iconst (a := 5) (by decide +kernel) ?_
        refine g_cVI (st := _) (c_Md_refuse hn) k_Md_refuse l_Md_295 (by decide +kernel) (by omega) rfl rfl rfl rfl (Nat.le_of_ble_eq_true rfl) (by decide) ⟨by decide, by decide⟩ ?_
        rintro a9 σ9 ⟨ea9, hσ9⟩
        obtain rfl := ea9.symm
        subst hσ9
        refine g_retI (by decide +kernel) rfl (Or.inl rfl) ⟨by decide, by decide⟩ ?_
        intro S' hS'
        exact zAcM.no0 a0 k0 c0 hS (by rw [if_neg (fun y => y h15), if_pos (by omega)]) (by decide)
  · have h15 := zb0.mp h15
    refine g_aload_n (i := 0) (by decide +kernel) rfl ?_
    refine g_iconst (a := 2) (by decide +kernel) ?_
    refine g_cVI (st := _) (c_Md_refuse hn) k_Md_refuse l_Md_295 (by decide +kernel) (by omega) rfl rfl rfl rfl (Nat.le_of_ble_eq_true rfl) (by decide) ⟨by decide, by decide⟩ ?_
    rintro a9 σ9 ⟨ea9, hσ9⟩
    obtain rfl := ea9.symm
    subst hσ9
    refine g_retI (by decide +kernel) rfl (Or.inl rfl) ⟨by decide, by decide⟩ ?_
    intro S' hS'
    exact zAcM.no0 a0 k0 c0 hS (by rw [if_pos h15]) (by decide)
