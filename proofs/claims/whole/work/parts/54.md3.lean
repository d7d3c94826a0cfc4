/-- within q: those known have their begin -/
def zHq (σ τ S : zSt) (ac : Nat → Int) (q : Nat) : Prop := (∀ a, a ≠ 193 → a ≠ 194 → a ≠ 195 → τ a = σ a) ∧ (∀ j, j < zN S → (τ 195 j = 0 ∨ τ 195 j = 1) ∧ (S 2 j ≠ q → τ 195 j = 0)) ∧ (∀ j, j < zN S → τ 195 j = 1 → τ 193 j = zBg S ac j ∧ τ 194 j = (if zOp S j = true then 1 else 0)) ∧ ∀ j, ¬ (j < zN S ∧ S 2 j = q) → τ 193 j = σ 193 j ∧ τ 194 j = σ 194 j
def zHk (τ S : zSt) : Nat := zcnt (fun j => decide (τ 195 j = 1)) (zN S)
/-- none more can be known at once, of those below i -/
def zHc (τ S : zSt) (q i : Nat) : Prop := ∀ j, j < i → S 2 j = q → τ 195 j = 0 → zby (S 4 j) = true ∧ τ 195 (S 5 j).toNat = 0
def zHd (σ τ S : zSt) (ac : Nat → Int) (q : Nat) : Prop := (∀ a, a ≠ 193 → a ≠ 194 → a ≠ 195 → τ a = σ a) ∧ (∀ j, j < zN S → S 2 j = q → τ 193 j = zBg S ac j ∧ τ 194 j = (if zOp S j = true then 1 else 0)) ∧ ∀ j, ¬ (j < zN S ∧ S 2 j = q) → τ 193 j = σ 193 j ∧ τ 194 j = σ 194 j
section HQ
variable {σ τ S : zSt} {ac : Nat → Int} {q i : Nat} {d r : Nat → Nat}
theorem zHq_step (h : zHq σ τ S ac q) (hi : i < zN S) (hq : S 2 i = q) : zHq σ (zs (zs (zs τ 194 i (if zOp S i = true then 1 else 0)) 193 i (zBg S ac i)) 195 i 1) S ac q := by
  obtain ⟨h1, h2, h3, h4⟩ := h
  refine ⟨fun a a1 a2 a3 => by rw [zs_other a3, zs_other a1, zs_other a2]; exact h1 a a1 a2 a3, fun j hj => ?_, fun j hj e => ?_, fun j hj => ?_⟩
  · by_cases z : j = i
    · subst z
      rw [zs_eq]
      exact ⟨Or.inr rfl, fun y => absurd hq y⟩
    · rw [zs_ne (fun y => z y.2), zs_other (by decide), zs_other (by decide)]
      exact h2 j hj
  · by_cases z : j = i
    · subst z
      rw [zs_other (by decide), zs_eq, zs_other (by decide), zs_other (by decide), zs_eq]
      exact ⟨rfl, rfl⟩
    · rw [zs_ne (fun y => z y.2), zs_other (by decide), zs_other (by decide)] at e
      rw [zs_other (by decide), zs_ne (fun y => z y.2), zs_other (by decide), zs_other (by decide), zs_other (by decide), zs_ne (fun y => z y.2)]
      exact h3 j hj e
  · have z : j ≠ i := fun y => hj (by rw [y]; exact ⟨hi, hq⟩)
    rw [zs_other (by decide), zs_ne (fun y => z y.2), zs_other (by decide), zs_other (by decide), zs_other (by decide), zs_ne (fun y => z y.2)]
    exact h4 j hj
theorem zHk_step {u : zSt} (hi : i < zN S) (h0 : τ 195 i = 0) (hu : ∀ j, u 195 j = zu (τ 195) i 1 j) : zHk u S = zHk τ S + 1 := by
  have c := zcnt_or (A := fun j => decide (τ 195 j = 1)) hi
  rw [if_neg (by rw [decide_eq_true_iff]; omega)] at c
  unfold zHk
  rw [← c]
  refine zcnt_congr (fun j hj => ?_)
  rw [hu]
  by_cases z : j = i
  · subst z; rw [zu_eq]; simp
  · rw [zu_ne z]; simp [z]
theorem zHd_of (hv : zVal S d r) (h : zHq σ τ S ac q) (hc : zHc τ S q (zN S)) : zHd σ τ S ac q := by
  obtain ⟨h1, h2, h3, h4⟩ := h
  refine ⟨h1, fun j hj hq => ?_, h4⟩
  have all : ∀ m j, r j < m → j < zN S → S 2 j = q → τ 195 j = 1 := by
    intro m
    induction m with
    | zero => intro j h; omega
    | succ m ih =>
      intro j hm hj hq
      rcases (h2 j hj).1 with e | e
      · obtain ⟨b1, b2⟩ := hc j hj hq e
        have o := hv.oth hj b1
        have := ih _ (by omega) o.2.1 (by rw [o.2.2.1]; exact hq)
        omega
      · exact e
  exact h3 j hj (all (r j + 1) j (by omega) hj hq)
end HQ
theorem w3_Md_laysHeap {G : zG} {X : zX} {n : Nat} {σ : zSt} {S : zSt} {d r : Nat → Nat} {q : Nat} {ac : Nat → Int} (hn : 220 ≤ n) (hS : zMc σ S) (hv : zVal S d r) (hq : q < zN S) (hA : ∀ j, j < zN S → S 2 j = q → σ 192 j = ac j) (hB : ∀ j, j < zN S → S 2 j = q → 0 ≤ zBg S ac j + ac j ∧ zBg S ac j + ac j ≤ 2000000000) {τ : zSt} (hd : zHd σ τ S ac q) {x2 : Int}  : ∀ (m : Nat) (i : Nat) (x3 : Int), x3 = (i : Int) → i ≤ zN S → zN S < i + m → Go G X m_Md_laysHeap (1, 0, 0, 0, 0) n SH (zs τ 191 q (zMx S ac q i)) 243 [(0, vr G 189), (1, vi (q : Int)), (2, vi x2), (3, vi x3)] [] (zV n SH (fun σ' => ∃ τ, zHd σ τ S ac q ∧ σ' = zs τ 191 q (zMx S ac q (zN S)))) := by
  intro m
  induction m with
  | zero => intro i x3 e3 hi hm; exact absurd hm (by omega)
  | succ m ih =>
    intro i x3 e3 hi hm
    have e0 := hS.n
    have hN := hS.N
    have hz : zN S = (S 0 0).toNat := rfl
    have hT : zMc (zs τ 191 q (zMx S ac q i)) S := hS.moved (by rw [zs_other (by decide)]; exact hd.1 190 (by decide) (by decide) (by decide))
    subst e3
    have et := hT.n
    have mx := zMx_in (S := S) (ac := ac) (q := q) (N := zN S) (fun j h1 h2 _ => hB j h1 h2) i hi
    refine g_iload_n (i := 3) (by decide +kernel) rfl ?_
    refine g_aload_n (i := 0) (by decide +kernel) rfl ?_
    refine g_cVI (st := _) (c_Md_clips hn) k_Md_clips l_Md_148 (by decide +kernel) (by omega) rfl rfl rfl rfl (Nat.le_of_ble_eq_true rfl) (by decide) ⟨by decide, by decide⟩ ?_
    rintro a0 σ9 ⟨ea0, hσ9⟩
    obtain rfl := hσ9.symm
    subst ea0
    refine g_icmp_ge (off := 69) (tgt := 317) (by decide +kernel) (by decide) ⟨by omega, by omega⟩ ⟨by omega, by omega⟩ (fun h248 => ?_) (fun h248 => ?_)
    · refine g_retV (by decide +kernel) rfl ⟨by decide, by decide⟩ ?_
      exact ⟨τ, hd, by rw [show i = zN S by omega]⟩
    · have ki : i < zN S := by omega
      have kr := hS.rg (show i < 12 by omega)
      have ka := hT.ar ki
      have kh := hT.hw ki
      have ko := hT.ot ki
      have km := hT.mu ki
      have tk := hv.tree ki
      refine g_aload_n (i := 0) (by decide +kernel) rfl ?_
      refine g_iload_n (i := 3) (by decide +kernel) rfl ?_
      refine g_cVI (st := _) (c_Md_around (k := i) hn (by omega)) k_Md_around l_Md_169 (by decide +kernel) (by omega) rfl rfl rfl rfl (Nat.le_of_ble_eq_true rfl) (by decide) ⟨by decide, by decide⟩ ?_
      rintro a9 σ9 ⟨ea9, hσ9⟩
      obtain rfl := hσ9.symm
      subst ea9
      refine g_iload_n (i := 1) (by decide +kernel) rfl ?_
      refine g_icmp_ne (off := 54) (tgt := 311) (by decide +kernel) (by decide) ⟨by omega, by omega⟩ ⟨by omega, by omega⟩ (fun h257 => ?_) (fun h257 => ?_)
      · refine g_iinc (i := 3) (b := 1) (L' := [(0, _), (1, _), (2, _), (3, _)]) (by decide +kernel) rfl rfl rfl ?_
        refine g_goto (off := -71) (tgt := 243) (by decide +kernel) (by decide) ?_
        first
          | (rw [zs_zs]
             have hz2 : zs τ 191 q (zMx S ac q i) 191 q < _ := h289
             have em : zMx S ac q (i + 1) = zs τ 191 q (zMx S ac q i) 193 i + zs τ 191 q (zMx S ac q i) 192 i := by rw [zMx_s, if_pos ⟨by omega, kq, kO⟩]; omega
             rw [← em]
             exact ih (i + 1) _ (by omega) (by omega) (by omega))
          | (have hz2 : _ ≤ zs τ 191 q (zMx S ac q i) 191 q := h289
             have em : zMx S ac q (i + 1) = zMx S ac q i := by rw [zMx_s, if_pos ⟨by omega, kq, kO⟩]; omega
             rw [← em]
             exact ih (i + 1) _ (by omega) (by omega) (by omega))
          | (have kO : zOp S i = true := by
               cases e : zOp S i with
               | true => rfl
               | false => rw [k4, e] at h266; simp at h266
             have em : zMx S ac q (i + 1) = zMx S ac q i := by rw [zMx_s, if_neg (by rw [kO]; simp)]
             rw [← em]
             exact ih (i + 1) _ (by omega) (by omega) (by omega))
          | (have em : zMx S ac q (i + 1) = zMx S ac q i := by rw [zMx_s, if_neg (by omega)]
             rw [← em]
             exact ih (i + 1) _ (by omega) (by omega) (by omega))
      · have kq : S 2 i = q := by omega
        have kd := hd.2.1 i ki kq
        have k4 : zs τ 191 q (zMx S ac q i) 194 i = (if zOp S i = true then 1 else 0) := by rw [zs_other (by decide)]; exact kd.2
        have k3 : zs τ 191 q (zMx S ac q i) 193 i = zBg S ac i := by rw [zs_other (by decide)]; exact kd.1
        have k2 : zs τ 191 q (zMx S ac q i) 192 i = ac i := by rw [zs_other (by decide), hd.1 192 (by decide) (by decide) (by decide)]; exact hA i ki kq
        have k1 : zs τ 191 q (zMx S ac q i) 191 q = zMx S ac q i := zs_eq _ _ _ _
        have bd := hB i ki kq
        refine g_aload_n (i := 0) (by decide +kernel) rfl ?_
        refine g_getr f_Md_23 (by decide +kernel) (by omega) rfl rfl ?_
        refine g_iload_n (i := 3) (by decide +kernel) rfl ?_
        refine g_zald (j := i) (by decide +kernel) (by omega) rfl (by omega) (by omega) (by decide) ?_
        refine g_if_ne (off := 45) (tgt := 311) (by decide +kernel) (by decide) ⟨by rw [k4]; split <;> decide, by rw [k4]; split <;> decide⟩ (fun h266 => ?_) (fun h266 => ?_)
        · refine g_iinc (i := 3) (b := 1) (L' := [(0, _), (1, _), (2, _), (3, _)]) (by decide +kernel) rfl rfl rfl ?_
          refine g_goto (off := -71) (tgt := 243) (by decide +kernel) (by decide) ?_
          first
            | (rw [zs_zs]
               have hz2 : zs τ 191 q (zMx S ac q i) 191 q < _ := h289
               have em : zMx S ac q (i + 1) = zs τ 191 q (zMx S ac q i) 193 i + zs τ 191 q (zMx S ac q i) 192 i := by rw [zMx_s, if_pos ⟨by omega, kq, kO⟩]; omega
               rw [← em]
               exact ih (i + 1) _ (by omega) (by omega) (by omega))
            | (have hz2 : _ ≤ zs τ 191 q (zMx S ac q i) 191 q := h289
               have em : zMx S ac q (i + 1) = zMx S ac q i := by rw [zMx_s, if_pos ⟨by omega, kq, kO⟩]; omega
               rw [← em]
               exact ih (i + 1) _ (by omega) (by omega) (by omega))
            | (have kO : zOp S i = true := by
                 cases e : zOp S i with
                 | true => rfl
                 | false => rw [k4, e] at h266; simp at h266
               have em : zMx S ac q (i + 1) = zMx S ac q i := by rw [zMx_s, if_neg (by rw [kO]; simp)]
               rw [← em]
               exact ih (i + 1) _ (by omega) (by omega) (by omega))
            | (have em : zMx S ac q (i + 1) = zMx S ac q i := by rw [zMx_s, if_neg (by omega)]
               rw [← em]
               exact ih (i + 1) _ (by omega) (by omega) (by omega))
        · have kO : zOp S i = false := by
            cases e : zOp S i with
            | false => rfl
            | true => rw [k4, if_pos e] at h266; omega
          refine g_aload_n (i := 0) (by decide +kernel) rfl ?_
          refine g_getr f_Md_20 (by decide +kernel) (by omega) rfl rfl ?_
          refine g_iload_n (i := 3) (by decide +kernel) rfl ?_
          refine g_lald (j := i) (by decide +kernel) (by omega) rfl (by omega) (by omega) (by decide) ?_
          refine g_aload_n (i := 0) (by decide +kernel) rfl ?_
          refine g_getr f_Md_17 (by decide +kernel) (by omega) rfl rfl ?_
          refine g_iload_n (i := 3) (by decide +kernel) rfl ?_
          refine g_lald (j := i) (by decide +kernel) (by omega) rfl (by omega) (by omega) (by decide) ?_
          refine g_ladd (by decide +kernel) ?_
          refine g_aload_n (i := 0) (by decide +kernel) rfl ?_
          refine g_getr f_Md_13 (by decide +kernel) (by omega) rfl rfl ?_
          refine g_iload_n (i := 1) (by decide +kernel) rfl ?_
          refine g_lald (j := q) (by decide +kernel) (by omega) rfl (by omega) (by omega) (by decide) ?_
          refine g_lcmp (by decide +kernel) ⟨by omega, by omega⟩ ⟨by omega, by omega⟩ ?_
          refine g_if_le (off := 22) (tgt := 311) (by decide +kernel) (by decide) zcmp_r (fun h289 => ?_) (fun h289 => ?_)
          · have h289 := zcmp_le.mp h289
            refine g_iinc (i := 3) (b := 1) (L' := [(0, _), (1, _), (2, _), (3, _)]) (by decide +kernel) rfl rfl rfl ?_
            refine g_goto (off := -71) (tgt := 243) (by decide +kernel) (by decide) ?_
            first
              | (rw [zs_zs]
                 have hz2 : zs τ 191 q (zMx S ac q i) 191 q < _ := h289
                 have em : zMx S ac q (i + 1) = zs τ 191 q (zMx S ac q i) 193 i + zs τ 191 q (zMx S ac q i) 192 i := by rw [zMx_s, if_pos ⟨by omega, kq, kO⟩]; omega
                 rw [← em]
                 exact ih (i + 1) _ (by omega) (by omega) (by omega))
              | (have hz2 : _ ≤ zs τ 191 q (zMx S ac q i) 191 q := h289
                 have em : zMx S ac q (i + 1) = zMx S ac q i := by rw [zMx_s, if_pos ⟨by omega, kq, kO⟩]; omega
                 rw [← em]
                 exact ih (i + 1) _ (by omega) (by omega) (by omega))
              | (have kO : zOp S i = true := by
                   cases e : zOp S i with
                   | true => rfl
                   | false => rw [k4, e] at h266; simp at h266
                 have em : zMx S ac q (i + 1) = zMx S ac q i := by rw [zMx_s, if_neg (by rw [kO]; simp)]
                 rw [← em]
                 exact ih (i + 1) _ (by omega) (by omega) (by omega))
              | (have em : zMx S ac q (i + 1) = zMx S ac q i := by rw [zMx_s, if_neg (by omega)]
                 rw [← em]
                 exact ih (i + 1) _ (by omega) (by omega) (by omega))
          · have h289 := zcmp_gt.mp h289
            refine g_aload_n (i := 0) (by decide +kernel) rfl ?_
            refine g_getr f_Md_13 (by decide +kernel) (by omega) rfl rfl ?_
            refine g_iload_n (i := 1) (by decide +kernel) rfl ?_
            refine g_aload_n (i := 0) (by decide +kernel) rfl ?_
            refine g_getr f_Md_20 (by decide +kernel) (by omega) rfl rfl ?_
            refine g_iload_n (i := 3) (by decide +kernel) rfl ?_
            refine g_lald (j := i) (by decide +kernel) (by omega) rfl (by omega) (by omega) (by decide) ?_
            refine g_aload_n (i := 0) (by decide +kernel) rfl ?_
            refine g_getr f_Md_17 (by decide +kernel) (by omega) rfl rfl ?_
            refine g_iload_n (i := 3) (by decide +kernel) rfl ?_
            refine g_lald (j := i) (by decide +kernel) (by omega) rfl (by omega) (by omega) (by decide) ?_
            refine g_ladd (by decide +kernel) ?_
            refine g_last (j := q) (by decide +kernel) (by omega) rfl (by omega) (by omega) (by decide) ?_
            refine g_iinc (i := 3) (b := 1) (L' := [(0, _), (1, _), (2, _), (3, _)]) (by decide +kernel) rfl rfl rfl ?_
            refine g_goto (off := -71) (tgt := 243) (by decide +kernel) (by decide) ?_
            first
              | (rw [zs_zs]
                 have hz2 : zs τ 191 q (zMx S ac q i) 191 q < _ := h289
                 have em : zMx S ac q (i + 1) = zs τ 191 q (zMx S ac q i) 193 i + zs τ 191 q (zMx S ac q i) 192 i := by rw [zMx_s, if_pos ⟨by omega, kq, kO⟩]; omega
                 rw [← em]
                 exact ih (i + 1) _ (by omega) (by omega) (by omega))
              | (have hz2 : _ ≤ zs τ 191 q (zMx S ac q i) 191 q := h289
                 have em : zMx S ac q (i + 1) = zMx S ac q i := by rw [zMx_s, if_pos ⟨by omega, kq, kO⟩]; omega
                 rw [← em]
                 exact ih (i + 1) _ (by omega) (by omega) (by omega))
              | (have kO : zOp S i = true := by
                   cases e : zOp S i with
                   | true => rfl
                   | false => rw [k4, e] at h266; simp at h266
                 have em : zMx S ac q (i + 1) = zMx S ac q i := by rw [zMx_s, if_neg (by rw [kO]; simp)]
                 rw [← em]
                 exact ih (i + 1) _ (by omega) (by omega) (by omega))
              | (have em : zMx S ac q (i + 1) = zMx S ac q i := by rw [zMx_s, if_neg (by omega)]
                 rw [← em]
                 exact ih (i + 1) _ (by omega) (by omega) (by omega))
theorem t_Md_laysHeap {G : zG} {X : zX} {n : Nat} {σ : zSt} {S : zSt} {d r : Nat → Nat} {q : Nat} {ac : Nat → Int} (hn : 220 ≤ n) (hS : zMc σ S) (hv : zVal S d r) (hq : q < zN S) (hA : ∀ j, j < zN S → S 2 j = q → σ 192 j = ac j) (hB : ∀ j, j < zN S → S 2 j = q → 0 ≤ zBg S ac j + ac j ∧ zBg S ac j + ac j ≤ 2000000000) {τ : zSt} (hd : zHd σ τ S ac q) {x2 : Int} : Go G X m_Md_laysHeap (1, 0, 0, 0, 0) n SH τ 234 [(0, vr G 189), (1, vi (q : Int)), (2, vi x2)] [] (zV n SH (fun σ' => ∃ τ, zHd σ τ S ac q ∧ σ' = zs τ 191 q (zMx S ac q (zN S)))) := by
  have e0 := hS.n
  have hN := hS.N
  have hz : zN S = (S 0 0).toNat := rfl
  have hT : zMc τ S := hS.moved (hd.1 190 (by decide) (by decide) (by decide))
  refine g_aload_n (i := 0) (by decide +kernel) rfl ?_
  refine g_getr f_Md_13 (by decide +kernel) (by omega) rfl rfl ?_
  refine g_iload_n (i := 1) (by decide +kernel) rfl ?_
  refine g_lconst (c := 0) (a := 0) (by decide +kernel) (by decide) ?_
  refine g_last (j := q) (by decide +kernel) (by omega) rfl (by omega) (by omega) (by decide) ?_
  refine g_iconst (a := 0) (by decide +kernel) ?_
  refine g_istore_n (i := 3) (L' := [(0, _), (1, _), (2, _), (3, _)]) (by decide +kernel) rfl rfl ?_
  exact w3_Md_laysHeap hn hS hv hq hA hB hd (zN S + 1) 0 _ rfl (by omega) (by omega)
theorem s_Md_laysHeap {G : zG} {X : zX} {n : Nat} {σ : zSt} {S : zSt} {d r : Nat → Nat} {q : Nat} {ac : Nat → Int} (hn : 220 ≤ n) (hS : zMc σ S) (hv : zVal S d r) (hq : q < zN S) (hA : ∀ j, j < zN S → S 2 j = q → σ 192 j = ac j) (hB : ∀ j, j < zN S → S 2 j = q → 0 ≤ zBg S ac j + ac j ∧ zBg S ac j + ac j ≤ 2000000000) {τ : zSt} {x2 : Int} {i : Nat} (ht : zHq σ τ S ac q) (ki : i < zN S) (kq : S 2 i = q) (kb : zby (S 4 i) = true → τ 195 (S 5 i).toNat = 1) {post : zPost} (kk : Go G X m_Md_laysHeap (1, 0, 0, 0, 0) n SH (zs (zs (zs τ 194 i (if zOp S i = true then 1 else 0)) 193 i (zBg S ac i)) 195 i 1) 225 [(0, vr G 189), (1, vi (q : Int)), (2, vi 1), (3, vi (i : Int))] [] post)  : Go G X m_Md_laysHeap (1, 0, 0, 0, 0) n SH τ 98 [(0, vr G 189), (1, vi (q : Int)), (2, vi x2), (3, vi (i : Int))] [] post := by
  have e0 := hS.n
  have hN := hS.N
  have hz : zN S = (S 0 0).toNat := rfl
  have hT : zMc τ S := hS.moved (ht.1 190 (by decide) (by decide) (by decide))
  have kr := hS.rg (show i < 12 by omega)
  have kh := hT.hw ki
  have ko := hT.ot ki
  have km := hT.mu ki
  obtain ⟨o, ho⟩ : ∃ o : Nat, o = (S 5 i).toNat := ⟨_, rfl⟩
  have own : zby (S 4 i) = false → zBg S ac i = (if S 4 i = 3 then 0 else S 6 i) ∧ zOp S i = decide (S 4 i = 3) := fun h => zBg_own h
  have oth : zby (S 4 i) = true → (0 ≤ S 5 i ∧ o < zN S) ∧ τ 193 o = zBg S ac o ∧ τ 194 o = (if zOp S o = true then 1 else 0) ∧ τ 192 o = ac o ∧ zBg S ac i = S 6 i + (if S 4 i = 2 then ac o else 0) + zBg S ac o ∧ zOp S i = zOp S o := fun h => by
    have a := hv.oth ki h
    rw [← ho] at a
    have b := kb h
    rw [← ho] at b
    have c := ht.2.2.1 o a.2.1 b
    have e := zBg_by (ac := ac) hv ki h
    rw [← ho] at e
    exact ⟨⟨a.1, a.2.1⟩, c.1, c.2, by rw [ht.1 192 (by decide) (by decide) (by decide)]; exact hA o a.2.1 (by rw [a.2.2.1]; exact kq), e⟩
  have c4 : (S 4 i = 0 ∧ zBg S ac i = S 6 i ∧ zOp S i = false) ∨ (S 4 i = 3 ∧ zBg S ac i = 0 ∧ zOp S i = true) ∨ ((S 4 i = 1 ∨ S 4 i = 2) ∧ (0 ≤ S 5 i ∧ o < zN S) ∧ τ 193 o = zBg S ac o ∧ τ 194 o = (if zOp S o = true then 1 else 0) ∧ τ 192 o = ac o ∧ zBg S ac i = S 6 i + (if S 4 i = 2 then ac o else 0) + zBg S ac o ∧ zOp S i = zOp S o) := by
    by_cases z : S 4 i = 1 ∨ S 4 i = 2
    · exact Or.inr (Or.inr ⟨z, oth (decide_eq_true z)⟩)
    · have w := own (decide_eq_false z)
      by_cases y : S 4 i = 3
      · exact Or.inr (Or.inl ⟨y, by rw [w.1, if_pos y], by rw [w.2]; exact decide_eq_true y⟩)
      · exact Or.inl ⟨by omega, by rw [w.1, if_neg y], by rw [w.2]; exact decide_eq_false y⟩
  have J153 : ∀ v : Int, v = (if zOp S i = true then 1 else 0) → (v = 0 ∨ v = 1) → Go G X m_Md_laysHeap (1, 0, 0, 0, 0) n SH τ 153 [(0, vr G 189), (1, vi (q : Int)), (2, vi x2), (3, vi (i : Int)), (4, vi (τ 190 (146 + i))), (5, vi (τ 190 (158 + i)))] [vi v, vi (i : Int), vr G 194] post := by
    intro v ev v01
    refine g_zast (j := i) (by decide +kernel) (by omega) rfl (by omega) (by omega) (by decide) (by omega) ?_
    refine g_aload_n (i := 0) (by decide +kernel) rfl ?_
    refine g_getr f_Md_20 (by decide +kernel) (by omega) rfl rfl ?_
    refine g_iload_n (i := 3) (by decide +kernel) rfl ?_
    refine g_iload (i := 4) (by decide +kernel) rfl ?_
    refine g_iconst (a := 3) (by decide +kernel) ?_
    refine g_icmp_ne (off := 7) (tgt := 169) (by decide +kernel) (by decide) ⟨by omega, by omega⟩ ⟨by omega, by omega⟩ (fun h162 => ?_) (fun h162 => ?_)
    · refine g_aload_n (i := 0) (by decide +kernel) rfl ?_
      refine g_getr f_Md_7 (by decide +kernel) (by omega) rfl rfl ?_
      refine g_sipush (a := 170) (by decide +kernel) (by decide) ?_
      refine g_iload_n (i := 3) (by decide +kernel) rfl ?_
      refine g_iadd (by decide +kernel) ?_
      refine g_iald (j := (170 + i)) (by decide +kernel) (by omega) rfl (by omega) (by omega) (by decide) ?_
      refine g_i2l (by decide +kernel) ⟨by rw [zs_other (by decide)]; omega, by rw [zs_other (by decide)]; omega⟩ ?_
      refine g_iload (i := 4) (by decide +kernel) rfl ?_
      refine g_if_ne (off := 7) (tgt := 189) (by decide +kernel) (by decide) ⟨by omega, by omega⟩ (fun h182 => ?_) (fun h182 => ?_)
      · refine g_aload_n (i := 0) (by decide +kernel) rfl ?_
        refine g_getr f_Md_20 (by decide +kernel) (by omega) rfl rfl ?_
        refine g_iload (i := 5) (by decide +kernel) rfl ?_
        refine g_lald (j := o) (by decide +kernel) (by omega) rfl (by omega) (by omega) (by decide) ?_
        refine g_iload (i := 4) (by decide +kernel) rfl ?_
        refine g_iconst (a := 2) (by decide +kernel) ?_
        refine g_icmp_ne (off := 13) (tgt := 212) (by decide +kernel) (by decide) ⟨by omega, by omega⟩ ⟨by omega, by omega⟩ (fun h199 => ?_) (fun h199 => ?_)
        · refine g_lconst (c := 0) (a := 0) (by decide +kernel) (by decide) ?_
          refine g_ladd (by decide +kernel) ?_
          refine g_ladd (by decide +kernel) ?_
          refine g_last (j := i) (by decide +kernel) (by omega) rfl (by omega) (by omega) (by decide) ?_
          refine g_aload_n (i := 0) (by decide +kernel) rfl ?_
          refine g_getr f_Md_27 (by decide +kernel) (by omega) rfl rfl ?_
          refine g_iload_n (i := 3) (by decide +kernel) rfl ?_
          refine g_iconst (a := 1) (by decide +kernel) ?_
          refine g_zast (j := i) (by decide +kernel) (by omega) rfl (by omega) (by omega) (by decide) (by omega) ?_
          refine g_iconst (a := 1) (by decide +kernel) ?_
          refine g_istore_n (i := 2) (L' := [(0, _), (1, _), (2, _), (3, _), (4, _), (5, _)]) (by decide +kernel) rfl rfl ?_
          refine g_less [0, 1, 2, 3] rfl ?_
          have hbg : zs τ 194 i v = zs τ 194 i (if zOp S i = true then 1 else 0) := by rw [ev]
          refine g_eq (σ' := _) (L' := _) (st' := []) kk ?_ rfl rfl
          rw [hbg]
          have w0 : zs τ 194 i (if zOp S i = true then 1 else 0) 190 (170 + i) = τ 190 (170 + i) := by rw [zs_other (by decide)]
          have w3 : zs τ 194 i (if zOp S i = true then 1 else 0) 193 o = τ 193 o := by rw [zs_other (by decide)]
          have w2 : zs τ 194 i (if zOp S i = true then 1 else 0) 192 o = τ 192 o := by rw [zs_other (by decide)]
          first
            | (have z3 : τ 190 (146 + i) = 3 := h162
               have ebg : zBg S ac i = 0 := by
                 rcases c4 with c | c | c
                 · omega
                 · exact c.2.1
                 · omega
               rw [ebg])
            | (have z0 : τ 190 (146 + i) = 0 := h182
               have ebg : zBg S ac i = τ 190 (170 + i) + 0 := by
                 rcases c4 with c | c | c
                 · omega
                 · omega
                 · omega
               rw [w0, ebg])
            | (have z2 : τ 190 (146 + i) = 2 := h199
               have ebg : zBg S ac i = τ 190 (170 + i) + (τ 193 o + τ 192 o) := by
                 rcases c4 with c | c | c
                 · omega
                 · omega
                 · have e := c.2.2.2.2.2.1
                   rw [if_pos (by omega)] at e
                   omega
               rw [w0, w2, w3, ebg])
            | (have z2 : ¬ τ 190 (146 + i) = 2 := h199
               have ebg : zBg S ac i = τ 190 (170 + i) + (τ 193 o + 0) := by
                 rcases c4 with c | c | c
                 · omega
                 · omega
                 · have e := c.2.2.2.2.2.1
                   rw [if_neg (by omega)] at e
                   omega
               rw [w0, w3, ebg])
        · refine g_aload_n (i := 0) (by decide +kernel) rfl ?_
          refine g_getr f_Md_17 (by decide +kernel) (by omega) rfl rfl ?_
          refine g_iload (i := 5) (by decide +kernel) rfl ?_
          refine g_lald (j := o) (by decide +kernel) (by omega) rfl (by omega) (by omega) (by decide) ?_
          refine g_goto (off := 4) (tgt := 213) (by decide +kernel) (by decide) ?_
          refine g_ladd (by decide +kernel) ?_
          refine g_ladd (by decide +kernel) ?_
          refine g_last (j := i) (by decide +kernel) (by omega) rfl (by omega) (by omega) (by decide) ?_
          refine g_aload_n (i := 0) (by decide +kernel) rfl ?_
          refine g_getr f_Md_27 (by decide +kernel) (by omega) rfl rfl ?_
          refine g_iload_n (i := 3) (by decide +kernel) rfl ?_
          refine g_iconst (a := 1) (by decide +kernel) ?_
          refine g_zast (j := i) (by decide +kernel) (by omega) rfl (by omega) (by omega) (by decide) (by omega) ?_
          refine g_iconst (a := 1) (by decide +kernel) ?_
          refine g_istore_n (i := 2) (L' := [(0, _), (1, _), (2, _), (3, _), (4, _), (5, _)]) (by decide +kernel) rfl rfl ?_
          refine g_less [0, 1, 2, 3] rfl ?_
          have hbg : zs τ 194 i v = zs τ 194 i (if zOp S i = true then 1 else 0) := by rw [ev]
          refine g_eq (σ' := _) (L' := _) (st' := []) kk ?_ rfl rfl
          rw [hbg]
          have w0 : zs τ 194 i (if zOp S i = true then 1 else 0) 190 (170 + i) = τ 190 (170 + i) := by rw [zs_other (by decide)]
          have w3 : zs τ 194 i (if zOp S i = true then 1 else 0) 193 o = τ 193 o := by rw [zs_other (by decide)]
          have w2 : zs τ 194 i (if zOp S i = true then 1 else 0) 192 o = τ 192 o := by rw [zs_other (by decide)]
          first
            | (have z3 : τ 190 (146 + i) = 3 := h162
               have ebg : zBg S ac i = 0 := by
                 rcases c4 with c | c | c
                 · omega
                 · exact c.2.1
                 · omega
               rw [ebg])
            | (have z0 : τ 190 (146 + i) = 0 := h182
               have ebg : zBg S ac i = τ 190 (170 + i) + 0 := by
                 rcases c4 with c | c | c
                 · omega
                 · omega
                 · omega
               rw [w0, ebg])
            | (have z2 : τ 190 (146 + i) = 2 := h199
               have ebg : zBg S ac i = τ 190 (170 + i) + (τ 193 o + τ 192 o) := by
                 rcases c4 with c | c | c
                 · omega
                 · omega
                 · have e := c.2.2.2.2.2.1
                   rw [if_pos (by omega)] at e
                   omega
               rw [w0, w2, w3, ebg])
            | (have z2 : ¬ τ 190 (146 + i) = 2 := h199
               have ebg : zBg S ac i = τ 190 (170 + i) + (τ 193 o + 0) := by
                 rcases c4 with c | c | c
                 · omega
                 · omega
                 · have e := c.2.2.2.2.2.1
                   rw [if_neg (by omega)] at e
                   omega
               rw [w0, w3, ebg])
      · refine g_lconst (c := 0) (a := 0) (by decide +kernel) (by decide) ?_
        refine g_goto (off := 28) (tgt := 214) (by decide +kernel) (by decide) ?_
        refine g_ladd (by decide +kernel) ?_
        refine g_last (j := i) (by decide +kernel) (by omega) rfl (by omega) (by omega) (by decide) ?_
        refine g_aload_n (i := 0) (by decide +kernel) rfl ?_
        refine g_getr f_Md_27 (by decide +kernel) (by omega) rfl rfl ?_
        refine g_iload_n (i := 3) (by decide +kernel) rfl ?_
        refine g_iconst (a := 1) (by decide +kernel) ?_
        refine g_zast (j := i) (by decide +kernel) (by omega) rfl (by omega) (by omega) (by decide) (by omega) ?_
        refine g_iconst (a := 1) (by decide +kernel) ?_
        refine g_istore_n (i := 2) (L' := [(0, _), (1, _), (2, _), (3, _), (4, _), (5, _)]) (by decide +kernel) rfl rfl ?_
        refine g_less [0, 1, 2, 3] rfl ?_
        have hbg : zs τ 194 i v = zs τ 194 i (if zOp S i = true then 1 else 0) := by rw [ev]
        refine g_eq (σ' := _) (L' := _) (st' := []) kk ?_ rfl rfl
        rw [hbg]
        have w0 : zs τ 194 i (if zOp S i = true then 1 else 0) 190 (170 + i) = τ 190 (170 + i) := by rw [zs_other (by decide)]
        have w3 : zs τ 194 i (if zOp S i = true then 1 else 0) 193 o = τ 193 o := by rw [zs_other (by decide)]
        have w2 : zs τ 194 i (if zOp S i = true then 1 else 0) 192 o = τ 192 o := by rw [zs_other (by decide)]
        first
          | (have z3 : τ 190 (146 + i) = 3 := h162
             have ebg : zBg S ac i = 0 := by
               rcases c4 with c | c | c
               · omega
               · exact c.2.1
               · omega
             rw [ebg])
          | (have z0 : τ 190 (146 + i) = 0 := h182
             have ebg : zBg S ac i = τ 190 (170 + i) + 0 := by
               rcases c4 with c | c | c
               · omega
               · omega
               · omega
             rw [w0, ebg])
          | (have z2 : τ 190 (146 + i) = 2 := h199
             have ebg : zBg S ac i = τ 190 (170 + i) + (τ 193 o + τ 192 o) := by
               rcases c4 with c | c | c
               · omega
               · omega
               · have e := c.2.2.2.2.2.1
                 rw [if_pos (by omega)] at e
                 omega
             rw [w0, w2, w3, ebg])
          | (have z2 : ¬ τ 190 (146 + i) = 2 := h199
             have ebg : zBg S ac i = τ 190 (170 + i) + (τ 193 o + 0) := by
               rcases c4 with c | c | c
               · omega
               · omega
               · have e := c.2.2.2.2.2.1
                 rw [if_neg (by omega)] at e
                 omega
             rw [w0, w3, ebg])
    · refine g_lconst (c := 0) (a := 0) (by decide +kernel) (by decide) ?_
      refine g_goto (off := 49) (tgt := 215) (by decide +kernel) (by decide) ?_
      refine g_last (j := i) (by decide +kernel) (by omega) rfl (by omega) (by omega) (by decide) ?_
      refine g_aload_n (i := 0) (by decide +kernel) rfl ?_
      refine g_getr f_Md_27 (by decide +kernel) (by omega) rfl rfl ?_
      refine g_iload_n (i := 3) (by decide +kernel) rfl ?_
      refine g_iconst (a := 1) (by decide +kernel) ?_
      refine g_zast (j := i) (by decide +kernel) (by omega) rfl (by omega) (by omega) (by decide) (by omega) ?_
      refine g_iconst (a := 1) (by decide +kernel) ?_
      refine g_istore_n (i := 2) (L' := [(0, _), (1, _), (2, _), (3, _), (4, _), (5, _)]) (by decide +kernel) rfl rfl ?_
      refine g_less [0, 1, 2, 3] rfl ?_
      have hbg : zs τ 194 i v = zs τ 194 i (if zOp S i = true then 1 else 0) := by rw [ev]
      refine g_eq (σ' := _) (L' := _) (st' := []) kk ?_ rfl rfl
      rw [hbg]
      have w0 : zs τ 194 i (if zOp S i = true then 1 else 0) 190 (170 + i) = τ 190 (170 + i) := by rw [zs_other (by decide)]
      have w3 : zs τ 194 i (if zOp S i = true then 1 else 0) 193 o = τ 193 o := by rw [zs_other (by decide)]
      have w2 : zs τ 194 i (if zOp S i = true then 1 else 0) 192 o = τ 192 o := by rw [zs_other (by decide)]
      first
        | (have z3 : τ 190 (146 + i) = 3 := h162
           have ebg : zBg S ac i = 0 := by
             rcases c4 with c | c | c
             · omega
             · exact c.2.1
             · omega
           rw [ebg])
        | (have z0 : τ 190 (146 + i) = 0 := h182
           have ebg : zBg S ac i = τ 190 (170 + i) + 0 := by
             rcases c4 with c | c | c
             · omega
             · omega
             · omega
           rw [w0, ebg])
        | (have z2 : τ 190 (146 + i) = 2 := h199
           have ebg : zBg S ac i = τ 190 (170 + i) + (τ 193 o + τ 192 o) := by
             rcases c4 with c | c | c
             · omega
             · omega
             · have e := c.2.2.2.2.2.1
               rw [if_pos (by omega)] at e
               omega
           rw [w0, w2, w3, ebg])
        | (have z2 : ¬ τ 190 (146 + i) = 2 := h199
           have ebg : zBg S ac i = τ 190 (170 + i) + (τ 193 o + 0) := by
             rcases c4 with c | c | c
             · omega
             · omega
             · have e := c.2.2.2.2.2.1
               rw [if_neg (by omega)] at e
               omega
           rw [w0, w3, ebg])
  refine g_aload_n (i := 0) (by decide +kernel) rfl ?_
  refine g_getr f_Md_7 (by decide +kernel) (by omega) rfl rfl ?_
  refine g_sipush (a := 146) (by decide +kernel) (by decide) ?_
  refine g_iload_n (i := 3) (by decide +kernel) rfl ?_
  refine g_iadd (by decide +kernel) ?_
  refine g_iald (j := (146 + i)) (by decide +kernel) (by omega) rfl (by omega) (by omega) (by decide) ?_
  refine g_istore (i := 4) (L' := [(0, _), (1, _), (2, _), (3, _), (4, _)]) (by decide +kernel) rfl rfl ?_
  refine g_aload_n (i := 0) (by decide +kernel) rfl ?_
  refine g_getr f_Md_7 (by decide +kernel) (by omega) rfl rfl ?_
  refine g_sipush (a := 158) (by decide +kernel) (by decide) ?_
  refine g_iload_n (i := 3) (by decide +kernel) rfl ?_
  refine g_iadd (by decide +kernel) ?_
  refine g_iald (j := (158 + i)) (by decide +kernel) (by omega) rfl (by omega) (by omega) (by decide) ?_
  refine g_istore (i := 5) (L' := [(0, _), (1, _), (2, _), (3, _), (4, _), (5, _)]) (by decide +kernel) rfl rfl ?_
  refine g_aload_n (i := 0) (by decide +kernel) rfl ?_
  refine g_getr f_Md_23 (by decide +kernel) (by omega) rfl rfl ?_
  refine g_iload_n (i := 3) (by decide +kernel) rfl ?_
  refine g_iload (i := 4) (by decide +kernel) rfl ?_
  refine g_iconst (a := 3) (by decide +kernel) ?_
  refine g_icmp_eq (off := 18) (tgt := 148) (by decide +kernel) (by decide) ⟨by omega, by omega⟩ ⟨by omega, by omega⟩ (fun h130 => ?_) (fun h130 => ?_)
  · refine g_iconst (a := 1) (by decide +kernel) ?_
    refine g_goto (off := 4) (tgt := 153) (by decide +kernel) (by decide) ?_
    refine J153 _ ?_ (by decide)
    rcases c4 with c | c | c
    · have q9 : (if zOp S i = true then (1 : Int) else 0) = 0 := by rw [c.2.2]; rfl
      omega
    · have q9 : (if zOp S i = true then (1 : Int) else 0) = 1 := by rw [c.2.2]; rfl
      omega
    · have q9 : (if zOp S i = true then (1 : Int) else 0) = τ 194 o := by rw [c.2.2.2.2.2.2, c.2.2.2.1]
      omega
  · refine g_iload (i := 4) (by decide +kernel) rfl ?_
    refine g_if_eq (off := 17) (tgt := 152) (by decide +kernel) (by decide) ⟨by omega, by omega⟩ (fun h135 => ?_) (fun h135 => ?_)
    · refine g_iconst (a := 0) (by decide +kernel) ?_
      refine J153 _ ?_ (by decide)
      rcases c4 with c | c | c
      · have q9 : (if zOp S i = true then (1 : Int) else 0) = 0 := by rw [c.2.2]; rfl
        omega
      · have q9 : (if zOp S i = true then (1 : Int) else 0) = 1 := by rw [c.2.2]; rfl
        omega
      · have q9 : (if zOp S i = true then (1 : Int) else 0) = τ 194 o := by rw [c.2.2.2.2.2.2, c.2.2.2.1]
        omega
    · refine g_aload_n (i := 0) (by decide +kernel) rfl ?_
      refine g_getr f_Md_23 (by decide +kernel) (by omega) rfl rfl ?_
      refine g_iload (i := 5) (by decide +kernel) rfl ?_
      refine g_zald (j := o) (by decide +kernel) (by omega) rfl (by omega) (by omega) (by decide) ?_
      refine g_if_eq (off := 7) (tgt := 152) (by decide +kernel) (by decide) ⟨by rcases c4 with c | c | c <;> first | omega | (rw [c.2.2.2.1]; split <;> decide), by rcases c4 with c | c | c <;> first | omega | (rw [c.2.2.2.1]; split <;> decide)⟩ (fun h145 => ?_) (fun h145 => ?_)
      · refine g_iconst (a := 0) (by decide +kernel) ?_
        refine J153 _ ?_ (by decide)
        rcases c4 with c | c | c
        · have q9 : (if zOp S i = true then (1 : Int) else 0) = 0 := by rw [c.2.2]; rfl
          omega
        · have q9 : (if zOp S i = true then (1 : Int) else 0) = 1 := by rw [c.2.2]; rfl
          omega
        · have q9 : (if zOp S i = true then (1 : Int) else 0) = τ 194 o := by rw [c.2.2.2.2.2.2, c.2.2.2.1]
          omega
      · refine g_iconst (a := 1) (by decide +kernel) ?_
        refine g_goto (off := 4) (tgt := 153) (by decide +kernel) (by decide) ?_
        refine J153 _ ?_ (by decide)
        rcases c4 with c | c | c
        · have q9 : (if zOp S i = true then (1 : Int) else 0) = 0 := by rw [c.2.2]; rfl
          omega
        · have q9 : (if zOp S i = true then (1 : Int) else 0) = 1 := by rw [c.2.2]; rfl
          omega
        · have q9 : (if zOp S i = true then (1 : Int) else 0) = τ 194 o := by rw [c.2.2.2.2.2.2, c.2.2.2.1]
          omega
theorem w2_Md_laysHeap {G : zG} {X : zX} {n : Nat} {σ : zSt} {S : zSt} {d r : Nat → Nat} {q : Nat} {ac : Nat → Int} (hn : 220 ≤ n) (hS : zMc σ S) (hv : zVal S d r) (hq : q < zN S) (hA : ∀ j, j < zN S → S 2 j = q → σ 192 j = ac j) (hB : ∀ j, j < zN S → S 2 j = q → 0 ≤ zBg S ac j + ac j ∧ zBg S ac j + ac j ≤ 2000000000) {c0 : Nat} (kk : ∀ (τ : zSt) (x2 : Int), zHq σ τ S ac q → (x2 = 1 ∧ c0 < zHk τ S ∨ x2 = 0 ∧ zHc τ S q (zN S)) → Go G X m_Md_laysHeap (1, 0, 0, 0, 0) n SH τ 25 [(0, vr G 189), (1, vi (q : Int)), (2, vi x2)] [] (zV n SH (fun σ' => ∃ τ, zHd σ τ S ac q ∧ σ' = zs τ 191 q (zMx S ac q (zN S)))))  : ∀ (m : Nat) (i : Nat) (x2 x3 : Int) (τ : zSt), x3 = (i : Int) → zHq σ τ S ac q → c0 ≤ zHk τ S → (x2 = 1 ∧ c0 < zHk τ S ∨ x2 = 0 ∧ zHc τ S q i) → i ≤ zN S → zN S < i + m → Go G X m_Md_laysHeap (1, 0, 0, 0, 0) n SH τ 33 [(0, vr G 189), (1, vi (q : Int)), (2, vi x2), (3, vi x3)] [] (zV n SH (fun σ' => ∃ τ, zHd σ τ S ac q ∧ σ' = zs τ 191 q (zMx S ac q (zN S)))) := by
  intro m
  induction m with
  | zero => intro i x2 x3 τ e3 ht hc0 hx hi hm; exact absurd hm (by omega)
  | succ m ih =>
    intro i x2 x3 τ e3 ht hc0 hx hi hm
    have e0 := hS.n
    have hN := hS.N
    have hz : zN S = (S 0 0).toNat := rfl
    have hT : zMc τ S := hS.moved (ht.1 190 (by decide) (by decide) (by decide))
    have et := hT.n
    subst e3
    refine g_iload_n (i := 3) (by decide +kernel) rfl ?_
    refine g_aload_n (i := 0) (by decide +kernel) rfl ?_
    refine g_cVI (st := _) (c_Md_clips hn) k_Md_clips l_Md_148 (by decide +kernel) (by omega) rfl rfl rfl rfl (Nat.le_of_ble_eq_true rfl) (by decide) ⟨by decide, by decide⟩ ?_
    rintro a0 σ9 ⟨ea0, hσ9⟩
    obtain rfl := hσ9.symm
    subst ea0
    refine g_icmp_ge (off := 193) (tgt := 231) (by decide +kernel) (by decide) ⟨by omega, by omega⟩ ⟨by omega, by omega⟩ (fun h38 => ?_) (fun h38 => ?_)
    · refine g_goto (off := -206) (tgt := 25) (by decide +kernel) (by decide) ?_
      refine g_less [0, 1, 2] rfl ?_
      refine kk τ x2 ht ?_
      rw [show i = zN S by omega] at hx
      exact hx
    · have ki : i < zN S := by omega
      have kr := hS.rg (show i < 12 by omega)
      have ka := hT.ar ki
      have kh := hT.hw ki
      have ko := hT.ot ki
      have km := hT.mu ki
      have k5 := (ht.2.1 i ki).1
      refine g_aload_n (i := 0) (by decide +kernel) rfl ?_
      refine g_iload_n (i := 3) (by decide +kernel) rfl ?_
      refine g_cVI (st := _) (c_Md_around (k := i) hn (by omega)) k_Md_around l_Md_169 (by decide +kernel) (by omega) rfl rfl rfl rfl (Nat.le_of_ble_eq_true rfl) (by decide) ⟨by decide, by decide⟩ ?_
      rintro a9 σ9 ⟨ea9, hσ9⟩
      obtain rfl := hσ9.symm
      subst ea9
      refine g_iload_n (i := 1) (by decide +kernel) rfl ?_
      refine g_icmp_ne (off := 178) (tgt := 225) (by decide +kernel) (by decide) ⟨by omega, by omega⟩ ⟨by omega, by omega⟩ (fun h47 => ?_) (fun h47 => ?_)
      · refine g_iinc (i := 3) (b := 1) (L' := [(0, _), (1, _), (2, _), (3, _)]) (by decide +kernel) rfl rfl rfl ?_
        refine g_goto (off := -195) (tgt := 33) (by decide +kernel) (by decide) ?_
        refine ih (i + 1) _ _ _ (by omega) ht hc0 ?_ (by omega) (by omega)
        rcases hx with hx | ⟨hx, hx2⟩
        · exact Or.inl hx
        · refine Or.inr ⟨hx, fun j hj h1 h2 => ?_⟩
          rcases Nat.lt_or_ge j i with z | z
          · exact hx2 j z h1 h2
          · have ej : j = i := by omega
            subst ej
            first
              | exact ⟨hb, by omega⟩
              | omega
      · have kq : S 2 i = q := by omega
        refine g_aload_n (i := 0) (by decide +kernel) rfl ?_
        refine g_getr f_Md_27 (by decide +kernel) (by omega) rfl rfl ?_
        refine g_iload_n (i := 3) (by decide +kernel) rfl ?_
        refine g_zald (j := i) (by decide +kernel) (by omega) rfl (by omega) (by omega) (by decide) ?_
        refine g_if_ne (off := 169) (tgt := 225) (by decide +kernel) (by decide) ⟨by omega, by omega⟩ (fun h56 => ?_) (fun h56 => ?_)
        · refine g_iinc (i := 3) (b := 1) (L' := [(0, _), (1, _), (2, _), (3, _)]) (by decide +kernel) rfl rfl rfl ?_
          refine g_goto (off := -195) (tgt := 33) (by decide +kernel) (by decide) ?_
          refine ih (i + 1) _ _ _ (by omega) ht hc0 ?_ (by omega) (by omega)
          rcases hx with hx | ⟨hx, hx2⟩
          · exact Or.inl hx
          · refine Or.inr ⟨hx, fun j hj h1 h2 => ?_⟩
            rcases Nat.lt_or_ge j i with z | z
            · exact hx2 j z h1 h2
            · have ej : j = i := by omega
              subst ej
              first
                | exact ⟨hb, by omega⟩
                | omega
        · refine g_aload_n (i := 0) (by decide +kernel) rfl ?_
          refine g_getr f_Md_7 (by decide +kernel) (by omega) rfl rfl ?_
          refine g_sipush (a := 146) (by decide +kernel) (by decide) ?_
          refine g_iload_n (i := 3) (by decide +kernel) rfl ?_
          refine g_iadd (by decide +kernel) ?_
          refine g_iald (j := (146 + i)) (by decide +kernel) (by omega) rfl (by omega) (by omega) (by decide) ?_
          refine g_iconst (a := 1) (by decide +kernel) ?_
          refine g_iconst (a := 2) (by decide +kernel) ?_
          refine g_cSI (st := _) (c_Md_isIn ⟨by omega, by omega⟩ ⟨by omega, by omega⟩ ⟨by omega, by omega⟩) k_Md_isIn l_Md_152 (by decide +kernel) rfl rfl (Nat.le_of_ble_eq_true rfl) (by decide) ⟨by decide, by decide⟩ ?_
          rintro a9 σ9 ⟨ea9, hσ9⟩
          obtain rfl := hσ9.symm
          subst ea9
          refine g_if_eq (off := 24) (tgt := 98) (by decide +kernel) (by decide) zbr (fun h74 => ?_) (fun h74 => ?_)
          · have h74 := zb0.mp h74
            refine s_Md_laysHeap hn hS hv hq hA hB ht ki kq ?_ ?_
            · intro hb
              first
                | (have z : ¬ (1 ≤ τ 190 (146 + i) ∧ τ 190 (146 + i) ≤ 2) := h74
                   have := of_decide_eq_true hb
                   omega)
                | omega
            · refine g_iinc (i := 3) (b := 1) (L' := [(0, _), (1, _), (2, _), (3, _)]) (by decide +kernel) rfl rfl rfl ?_
              refine g_goto (off := -195) (tgt := 33) (by decide +kernel) (by decide) ?_
              have ck := zHk_step (u := zs (zs (zs τ 194 i (if zOp S i = true then 1 else 0)) 193 i (zBg S ac i)) 195 i 1) ki (by omega) (fun j => by rw [zs_row, zs_other (show 195 ≠ 193 by decide), zs_other (show 195 ≠ 194 by decide)])
              exact ih (i + 1) _ _ _ (by omega) (zHq_step ht ki kq) (by omega) (Or.inl ⟨rfl, by omega⟩) (by omega) (by omega)
          · have h74 := zb1.mp h74
            have hb : zby (S 4 i) = true := decide_eq_true (by omega)
            have oo := hv.oth ki hb
            have k6 := (ht.2.1 _ oo.2.1).1
            refine g_aload_n (i := 0) (by decide +kernel) rfl ?_
            refine g_getr f_Md_27 (by decide +kernel) (by omega) rfl rfl ?_
            refine g_aload_n (i := 0) (by decide +kernel) rfl ?_
            refine g_getr f_Md_7 (by decide +kernel) (by omega) rfl rfl ?_
            refine g_sipush (a := 158) (by decide +kernel) (by decide) ?_
            refine g_iload_n (i := 3) (by decide +kernel) rfl ?_
            refine g_iadd (by decide +kernel) ?_
            refine g_iald (j := (158 + i)) (by decide +kernel) (by omega) rfl (by omega) (by omega) (by decide) ?_
            refine g_zald (j := (S 5 i).toNat) (by decide +kernel) (by omega) rfl (by omega) (by omega) (by decide) ?_
            refine g_if_ne (off := 6) (tgt := 98) (by decide +kernel) (by decide) ⟨by omega, by omega⟩ (fun h92 => ?_) (fun h92 => ?_)
            · refine s_Md_laysHeap hn hS hv hq hA hB ht ki kq ?_ ?_
              · intro hb
                first
                  | (have z : ¬ (1 ≤ τ 190 (146 + i) ∧ τ 190 (146 + i) ≤ 2) := h74
                     have := of_decide_eq_true hb
                     omega)
                  | omega
              · refine g_iinc (i := 3) (b := 1) (L' := [(0, _), (1, _), (2, _), (3, _)]) (by decide +kernel) rfl rfl rfl ?_
                refine g_goto (off := -195) (tgt := 33) (by decide +kernel) (by decide) ?_
                have ck := zHk_step (u := zs (zs (zs τ 194 i (if zOp S i = true then 1 else 0)) 193 i (zBg S ac i)) 195 i 1) ki (by omega) (fun j => by rw [zs_row, zs_other (show 195 ≠ 193 by decide), zs_other (show 195 ≠ 194 by decide)])
                exact ih (i + 1) _ _ _ (by omega) (zHq_step ht ki kq) (by omega) (Or.inl ⟨rfl, by omega⟩) (by omega) (by omega)
            · refine g_goto (off := 130) (tgt := 225) (by decide +kernel) (by decide) ?_
              refine g_iinc (i := 3) (b := 1) (L' := [(0, _), (1, _), (2, _), (3, _)]) (by decide +kernel) rfl rfl rfl ?_
              refine g_goto (off := -195) (tgt := 33) (by decide +kernel) (by decide) ?_
              refine ih (i + 1) _ _ _ (by omega) ht hc0 ?_ (by omega) (by omega)
              rcases hx with hx | ⟨hx, hx2⟩
              · exact Or.inl hx
              · refine Or.inr ⟨hx, fun j hj h1 h2 => ?_⟩
                rcases Nat.lt_or_ge j i with z | z
                · exact hx2 j z h1 h2
                · have ej : j = i := by omega
                  subst ej
                  first
                    | exact ⟨hb, by omega⟩
                    | omega
theorem w1_Md_laysHeap {G : zG} {X : zX} {n : Nat} {σ : zSt} {S : zSt} {d r : Nat → Nat} {q : Nat} {ac : Nat → Int} (hn : 220 ≤ n) (hS : zMc σ S) (hv : zVal S d r) (hq : q < zN S) (hA : ∀ j, j < zN S → S 2 j = q → σ 192 j = ac j) (hB : ∀ j, j < zN S → S 2 j = q → 0 ≤ zBg S ac j + ac j ∧ zBg S ac j + ac j ≤ 2000000000)  : ∀ (m : Nat) (τ : zSt) (x2 : Int), zHq σ τ S ac q → (x2 = 1 ∨ x2 = 0 ∧ zHc τ S q (zN S)) → zHk τ S ≤ zN S → zN S < zHk τ S + m → Go G X m_Md_laysHeap (1, 0, 0, 0, 0) n SH τ 25 [(0, vr G 189), (1, vi (q : Int)), (2, vi x2)] [] (zV n SH (fun σ' => ∃ τ, zHd σ τ S ac q ∧ σ' = zs τ 191 q (zMx S ac q (zN S)))) := by
  intro m
  induction m with
  | zero => intro τ x2 ht hx hkN hm; exact absurd hm (by omega)
  | succ m ih =>
    intro τ x2 ht hx hkN hm
    have e0 := hS.n
    have hN := hS.N
    have hz : zN S = (S 0 0).toNat := rfl
    refine g_iload_n (i := 2) (by decide +kernel) rfl ?_
    refine g_if_eq (off := 208) (tgt := 234) (by decide +kernel) (by decide) ⟨by omega, by omega⟩ (fun h26 => ?_) (fun h26 => ?_)
    · exact t_Md_laysHeap hn hS hv hq hA hB (zHd_of hv ht (by rcases hx with hx | hx; omega; exact hx.2))
    · refine g_iconst (a := 0) (by decide +kernel) ?_
      refine g_istore_n (i := 2) (L' := [(0, _), (1, _), (2, _)]) (by decide +kernel) rfl rfl ?_
      refine g_iconst (a := 0) (by decide +kernel) ?_
      refine g_istore_n (i := 3) (L' := [(0, _), (1, _), (2, _), (3, _)]) (by decide +kernel) rfl rfl ?_
      refine w2_Md_laysHeap hn hS hv hq hA hB (c0 := zHk τ S) ?_ (zN S + 1) 0 _ _ τ rfl ht (Nat.le_refl _) (Or.inr ⟨rfl, fun j hj => by omega⟩) (by omega) (by omega)
      intro τ1 y h1 h2
      rcases h2 with h2 | h2
      · exact ih τ1 y h1 (Or.inl h2.1) (zcnt_le _ _) (by omega)
      · obtain ⟨rfl, h2⟩ := h2
        refine g_iload_n (i := 2) (by decide +kernel) rfl ?_
        refine g_if_eq (off := 208) (tgt := 234) (by decide +kernel) (by decide) ⟨by omega, by omega⟩ (fun _ => ?_) (fun h => absurd rfl h)
        exact t_Md_laysHeap hn hS hv hq hA hB (zHd_of hv h1 h2)
theorem w0_Md_laysHeap {G : zG} {X : zX} {n : Nat} {σ : zSt} {S : zSt} {d r : Nat → Nat} {q : Nat} {ac : Nat → Int} (hn : 220 ≤ n) (hS : zMc σ S) (hv : zVal S d r) (hq : q < zN S) (hA : ∀ j, j < zN S → S 2 j = q → σ 192 j = ac j) (hB : ∀ j, j < zN S → S 2 j = q → 0 ≤ zBg S ac j + ac j ∧ zBg S ac j + ac j ≤ 2000000000)  : ∀ (m : Nat) (i : Nat) (x2 : Int) (τ : zSt), x2 = (i : Int) → (∀ a, a ≠ 195 → τ a = σ a) → (∀ j, j < i → τ 195 j = 0) → i ≤ zN S → zN S < i + m → Go G X m_Md_laysHeap (1, 0, 0, 0, 0) n SH τ 2 [(0, vr G 189), (1, vi (q : Int)), (2, vi x2)] [] (zV n SH (fun σ' => ∃ τ, zHd σ τ S ac q ∧ σ' = zs τ 191 q (zMx S ac q (zN S)))) := by
  intro m
  induction m with
  | zero => intro i x2 τ e2 ht h0 hi hm; exact absurd hm (by omega)
  | succ m ih =>
    intro i x2 τ e2 ht h0 hi hm
    have e0 := hS.n
    have hN := hS.N
    have hz : zN S = (S 0 0).toNat := rfl
    have hT : zMc τ S := hS.moved (ht 190 (by decide))
    have et := hT.n
    subst e2
    refine g_iload_n (i := 2) (by decide +kernel) rfl ?_
    refine g_aload_n (i := 0) (by decide +kernel) rfl ?_
    refine g_cVI (st := _) (c_Md_clips hn) k_Md_clips l_Md_148 (by decide +kernel) (by omega) rfl rfl rfl rfl (Nat.le_of_ble_eq_true rfl) (by decide) ⟨by decide, by decide⟩ ?_
    rintro a0 σ9 ⟨ea0, hσ9⟩
    obtain rfl := hσ9.symm
    subst ea0
    refine g_icmp_ge (off := 16) (tgt := 23) (by decide +kernel) (by decide) ⟨by omega, by omega⟩ ⟨by omega, by omega⟩ (fun h7 => ?_) (fun h7 => ?_)
    · refine g_iconst (a := 1) (by decide +kernel) ?_
      refine g_istore_n (i := 2) (L' := [(0, _), (1, _), (2, _)]) (by decide +kernel) rfl rfl ?_
      refine w1_Md_laysHeap hn hS hv hq hA hB (zN S + 1) τ _ ⟨fun a _ _ h => ht a h, fun j hj => ⟨Or.inl (h0 j (by omega)), fun _ => h0 j (by omega)⟩, fun j hj e => ?_, fun j _ => by rw [ht 193 (by decide), ht 194 (by decide)]; exact ⟨rfl, rfl⟩⟩ (Or.inl rfl) (zcnt_le _ _) (by omega)
      have := h0 j (by omega)
      omega
    · refine g_aload_n (i := 0) (by decide +kernel) rfl ?_
      refine g_getr f_Md_27 (by decide +kernel) (by omega) rfl rfl ?_
      refine g_iload_n (i := 2) (by decide +kernel) rfl ?_
      refine g_iconst (a := 0) (by decide +kernel) ?_
      refine g_zast (j := i) (by decide +kernel) (by omega) rfl (by omega) (by omega) (by decide) (by omega) ?_
      refine g_iinc (i := 2) (b := 1) (L' := [(0, _), (1, _), (2, _)]) (by decide +kernel) rfl rfl rfl ?_
      refine g_goto (off := -18) (tgt := 2) (by decide +kernel) (by decide) ?_
      refine ih (i + 1) _ _ (by omega) (fun a ha => by rw [zs_other ha]; exact ht a ha) (fun j hj => ?_) (by omega) (by omega)
      by_cases z : j = i
      · subst z; rw [zs_eq]
      · rw [zs_ne (fun y => z y.2)]; exact h0 j (by omega)
theorem c_Md_laysHeap {G : zG} {n : Nat} {σ : zSt} {S : zSt} {d r : Nat → Nat} {q : Nat} {ac : Nat → Int} (hn : 220 ≤ n) (hS : zMc σ S) (hv : zVal S d r) (hq : q < zN S) (hA : ∀ j, j < zN S → S 2 j = q → σ 192 j = ac j) (hB : ∀ j, j < zN S → S 2 j = q → 0 ≤ zBg S ac j + ac j ∧ zBg S ac j + ac j ≤ 2000000000)  : Gm G y_Md_laysHeap m_Md_laysHeap 1 0 0 [vr G 189, vi (q : Int)] n SH σ (zV n SH (fun σ' => ∃ τ, zHd σ τ S ac q ∧ σ' = zs τ 191 q (zMx S ac q (zN S)))) := by
  refine g_enter (L := [(0, _), (1, _)]) (by decide) rfl rfl rfl (Nat.le_of_ble_eq_true rfl) (fun X => ?_)
  refine g_iconst (a := 0) (by decide +kernel) ?_
  refine g_istore_n (i := 2) (L' := [(0, _), (1, _), (2, _)]) (by decide +kernel) rfl rfl ?_
  exact w0_Md_laysHeap hn hS hv hq hA hB (zN S + 1) 0 _ σ rfl (fun _ _ => rfl) (fun j hj => by omega) (by omega) (by omega)
