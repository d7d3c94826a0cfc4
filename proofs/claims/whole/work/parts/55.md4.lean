/-- all is laid -/
def zLdA (σ S : zSt) : Prop := ∀ k, k < zN S → σ 191 k = (zsa S).1 k ∧ σ 192 k = (zsa S).2 k ∧ σ 193 k = zBe S (zsa S).2 k ∧ σ 194 k = (if zOk S k = true then 1 else 0)
def zMf1 (σ τ : zSt) : Prop := ∀ a, (a < 191 ∨ 195 < a) → τ a = σ a
/-- laid from i on -/
def zLi (σ τ S : zSt) (i : Nat) : Prop := zMf1 σ τ ∧ (∀ k, i ≤ k → k < zN S → τ 191 k = (zsa S).1 k ∧ τ 192 k = (zsa S).2 k) ∧ (∀ j, j < zN S → (i : Int) ≤ S 2 j → τ 193 j = zBe S (zsa S).2 j ∧ τ 194 j = (if zOk S j = true then 1 else 0)) ∧ ∀ j, j < zN S → S 2 j < i → τ 194 j = 0
theorem zVt.lay {S : zSt} (h : zVt S) : zLay S (zsa S).1 (zsa S).2 := by
  obtain ⟨⟨d, r, hv⟩, -⟩ := h
  obtain ⟨si, ac, hl⟩ := zLay_ex hv
  exact zsa_lay hl
theorem zBg_bd {S : zSt} {d r : Nat → Nat} {si ac : Nat → Int} (hv : zVal S d r) (hl : zLay S si ac) {q j : Nat} (hq : q < zN S) (hj : j < zN S) (e : S 2 j = q) : 0 ≤ zBg S ac j + ac j ∧ zBg S ac j + ac j ≤ 2000000000 := by
  have a := zBg_le (hv.2.2.2.1 q hq) (fun i hi => (hv.2.2.1 i hi).1.2.2.2.2.1) (fun i hi _ => (zLay_bound hv hl hi).2.1) hj e
  have c := zCS_le hv hq (zLay_from hv hl (zN S - (q + 1)) (q + 1) (by omega))
  have b := (zLay_bound hv hl hj).2.1
  omega
theorem t_Md_laysAll {G : zG} {X : zX} {n : Nat} {σ : zSt} {S : zSt} {d r : Nat → Nat} (hn : 220 ≤ n) (hS : zMc σ S) (hv : zVal S d r) {υ : zSt} {k : Nat} (hk : k < zN S) (g0 : zMf1 σ υ) (g1 : ∀ j, k ≤ j → j < zN S → υ 191 j = (zsa S).1 j) (g2 : ∀ j, k < j → j < zN S → υ 192 j = (zsa S).2 j) (g3 : ∀ j, j < zN S → (k : Int) ≤ S 2 j → υ 193 j = zBe S (zsa S).2 j ∧ υ 194 j = (if zOk S j = true then 1 else 0)) (g4 : ∀ j, j < zN S → S 2 j < k → υ 194 j = 0) {post : zPost} (kk : ∀ υ, zLi σ υ S k → Go G X m_Md_laysAll (3, 0, 0, 0, 0) n SH υ 30 [(0, vr G 189), (1, vi ((k : Int) - 1))] [] post) : Go G X m_Md_laysAll (3, 0, 0, 0, 0) n SH υ 93 [(0, vr G 189), (1, vi (k : Int))] [] post := by
  have e0 := hS.n
  have hN := hS.N
  have hz : zN S = (S 0 0).toNat := rfl
  have hl := hS.2.2.lay
  have hT : zMc υ S := hS.moved (g0 190 (by decide))
  have L := hl k hk
  have bd := zLay_bound hv hl hk
  have mk := (hv.2.2.1 k hk).1
  have m1 := hT.mk hk (show 1 < 9 by decide)
  have m2 := hT.mk hk (show 2 < 9 by decide)
  have m3 := hT.mk hk (show 3 < 9 by decide)
  obtain ⟨q0, q1, q2, q3, q4⟩ := mk
  have hk12 : k < 12 := by omega
  have s1 := g1 k (Nat.le_refl _) hk
  have ea : zAcW S ((zsa S).1 k) k = (υ 191 k * υ 190 (38 + 9 * k + 2) + υ 190 (38 + 9 * k + 1) - 1) / υ 190 (38 + 9 * k + 1) := by
    unfold zAcW
    rw [s1, m1, m2]
  have mulb : υ 191 k * υ 190 (38 + 9 * k + 2) ≤ υ 191 k * 9 := Int.mul_le_mul_of_nonneg_left (by omega) (by omega)
  have mul0 : 0 ≤ υ 191 k * υ 190 (38 + 9 * k + 2) := Int.mul_nonneg (by omega) (by omega)
  have wb : 0 ≤ zAcW S ((zsa S).1 k) k ∧ zAcW S ((zsa S).1 k) k ≤ 800000000 := by
    rw [ea]
    refine ⟨Int.ediv_nonneg (by omega) (by omega), ?_⟩
    have := Int.ediv_le_self (υ 190 (38 + 9 * k + 1)) (show 0 ≤ υ 191 k * υ 190 (38 + 9 * k + 2) + υ 190 (38 + 9 * k + 1) - 1 by omega)
    omega
  have fin : ∀ v, v = (zsa S).2 k → zLi σ (zs υ 192 k v) S k := fun v ev => by
    refine ⟨fun a ha => by rw [zs_other (by omega)]; exact g0 a ha, fun j h1 h2 => ?_, fun j h1 h2 => ?_, fun j h1 h2 => ?_⟩
    · rw [zs_other (by decide)]
      refine ⟨g1 j h1 h2, ?_⟩
      by_cases z : j = k
      · subst z; rw [zs_eq]; exact ev
      · rw [zs_ne (fun y => z y.2)]; exact g2 j (by omega) h2
    · rw [zs_other (by decide), zs_other (by decide)]; exact g3 j h1 h2
    · rw [zs_other (by decide)]; exact g4 j h1 h2
  refine g_aload_n (i := 0) (by decide +kernel) rfl ?_
  refine g_getr f_Md_13 (by decide +kernel) (by omega) rfl rfl ?_
  refine g_iload_n (i := 1) (by decide +kernel) rfl ?_
  refine g_lald (j := k) (by decide +kernel) (by omega) rfl (by omega) (by omega) (by decide) ?_
  refine g_aload_n (i := 0) (by decide +kernel) rfl ?_
  refine g_iload_n (i := 1) (by decide +kernel) rfl ?_
  refine g_iconst (a := 2) (by decide +kernel) ?_
  refine g_cVI (st := _) (c_Md_marked (k := k) (w := 2) hn (by omega) (by omega)) k_Md_marked l_Md_192 (by decide +kernel) (by omega) rfl rfl rfl rfl (Nat.le_of_ble_eq_true rfl) (by decide) ⟨by decide, by decide⟩ ?_
  rintro a9 σ9 ⟨ea9, hσ9⟩
  obtain rfl := hσ9.symm
  subst ea9
  refine g_i2l (by decide +kernel) ⟨by omega, by omega⟩ ?_
  refine g_lmul (by decide +kernel) ?_
  refine g_lstore_n (i := 2) (L' := [(0, _), (1, _), (2, _)]) (by decide +kernel) rfl rfl ?_
  refine g_aload_n (i := 0) (by decide +kernel) rfl ?_
  refine g_getr f_Md_17 (by decide +kernel) (by omega) rfl rfl ?_
  refine g_iload_n (i := 1) (by decide +kernel) rfl ?_
  refine g_lload_n (i := 2) (by decide +kernel) rfl ?_
  refine g_aload_n (i := 0) (by decide +kernel) rfl ?_
  refine g_iload_n (i := 1) (by decide +kernel) rfl ?_
  refine g_iconst (a := 1) (by decide +kernel) ?_
  refine g_cVI (st := _) (c_Md_marked (k := k) (w := 1) hn (by omega) (by omega)) k_Md_marked l_Md_192 (by decide +kernel) (by omega) rfl rfl rfl rfl (Nat.le_of_ble_eq_true rfl) (by decide) ⟨by decide, by decide⟩ ?_
  rintro a9 σ9 ⟨ea9, hσ9⟩
  obtain rfl := hσ9.symm
  subst ea9
  refine g_i2l (by decide +kernel) ⟨by omega, by omega⟩ ?_
  refine g_ladd (by decide +kernel) ?_
  refine g_lconst (c := 1) (a := 1) (by decide +kernel) (by decide) ?_
  refine g_lsub (by decide +kernel) ?_
  refine g_aload_n (i := 0) (by decide +kernel) rfl ?_
  refine g_iload_n (i := 1) (by decide +kernel) rfl ?_
  refine g_iconst (a := 1) (by decide +kernel) ?_
  refine g_cVI (st := _) (c_Md_marked (k := k) (w := 1) hn (by omega) (by omega)) k_Md_marked l_Md_192 (by decide +kernel) (by omega) rfl rfl rfl rfl (Nat.le_of_ble_eq_true rfl) (by decide) ⟨by decide, by decide⟩ ?_
  rintro a9 σ9 ⟨ea9, hσ9⟩
  obtain rfl := hσ9.symm
  subst ea9
  refine g_i2l (by decide +kernel) ⟨by omega, by omega⟩ ?_
  refine g_ldiv (by decide +kernel) ⟨by omega, by omega, by omega, by omega⟩ ?_
  refine g_last (j := k) (by decide +kernel) (by omega) rfl (by omega) (by omega) (by decide) ?_
  refine g_aload_n (i := 0) (by decide +kernel) rfl ?_
  refine g_iload_n (i := 1) (by decide +kernel) rfl ?_
  refine g_iconst (a := 3) (by decide +kernel) ?_
  refine g_cVI (st := _) (c_Md_marked (k := k) (w := 3) hn (by omega) (by omega)) k_Md_marked l_Md_192 (by decide +kernel) (by omega) rfl rfl rfl rfl (Nat.le_of_ble_eq_true rfl) (by decide) ⟨by decide, by decide⟩ ?_
  rintro a9 σ9 ⟨ea9, hσ9⟩
  obtain rfl := hσ9.symm
  rw [zs_other (show 190 ≠ 192 by decide)] at ea9
  subst ea9
  refine g_if_le (off := 33) (tgt := 172) (by decide +kernel) (by decide) ⟨by omega, by omega⟩ (fun h139 => ?_) (fun h139 => ?_)
  · refine g_iinc (i := 1) (b := -1) (L' := [(0, _), (1, _), (2, _)]) (by decide +kernel) rfl rfl rfl ?_
    refine g_goto (off := -145) (tgt := 30) (by decide +kernel) (by decide) ?_
    refine g_less [0, 1] rfl ?_
    first
      | (have hz3 : υ 190 (38 + 9 * k + 3) < zAcW S ((zsa S).1 k) k := h156
         rw [zs_zs]
         refine kk _ (fin _ ?_)
         rw [L.2]
         unfold zAc
         rw [if_pos (by omega)]
         exact m3)
      | (rw [← ea]
         refine kk _ (fin _ ?_)
         rw [L.2]
         unfold zAc
         rw [if_neg (by omega)])
  · refine g_aload_n (i := 0) (by decide +kernel) rfl ?_
    refine g_iload_n (i := 1) (by decide +kernel) rfl ?_
    refine g_iconst (a := 3) (by decide +kernel) ?_
    refine g_cVI (st := _) (c_Md_marked (k := k) (w := 3) hn (by omega) (by omega)) k_Md_marked l_Md_192 (by decide +kernel) (by omega) rfl rfl rfl rfl (Nat.le_of_ble_eq_true rfl) (by decide) ⟨by decide, by decide⟩ ?_
    rintro a9 σ9 ⟨ea9, hσ9⟩
    obtain rfl := hσ9.symm
    rw [zs_other (show 190 ≠ 192 by decide)] at ea9
    subst ea9
    refine g_i2l (by decide +kernel) ⟨by omega, by omega⟩ ?_
    refine g_aload_n (i := 0) (by decide +kernel) rfl ?_
    refine g_getr f_Md_17 (by decide +kernel) (by omega) rfl rfl ?_
    refine g_iload_n (i := 1) (by decide +kernel) rfl ?_
    refine g_lald (j := k) (by decide +kernel) (by omega) rfl (by omega) (by omega) (by decide) ?_
    refine g_lcmp (by decide +kernel) ⟨by omega, by omega⟩ ⟨by rw [zs_eq, ← ea]; omega, by rw [zs_eq, ← ea]; omega⟩ ?_
    refine g_if_ge (off := 16) (tgt := 172) (by decide +kernel) (by decide) zcmp_r (fun h156 => ?_) (fun h156 => ?_)
    · have h156 := zcmp_ge.mp h156
      rw [zs_eq, ← ea] at h156
      refine g_iinc (i := 1) (b := -1) (L' := [(0, _), (1, _), (2, _)]) (by decide +kernel) rfl rfl rfl ?_
      refine g_goto (off := -145) (tgt := 30) (by decide +kernel) (by decide) ?_
      refine g_less [0, 1] rfl ?_
      first
        | (have hz3 : υ 190 (38 + 9 * k + 3) < zAcW S ((zsa S).1 k) k := h156
           rw [zs_zs]
           refine kk _ (fin _ ?_)
           rw [L.2]
           unfold zAc
           rw [if_pos (by omega)]
           exact m3)
        | (rw [← ea]
           refine kk _ (fin _ ?_)
           rw [L.2]
           unfold zAc
           rw [if_neg (by omega)])
    · have h156 := zcmp_lt.mp h156
      rw [zs_eq, ← ea] at h156
      refine g_aload_n (i := 0) (by decide +kernel) rfl ?_
      refine g_getr f_Md_17 (by decide +kernel) (by omega) rfl rfl ?_
      refine g_iload_n (i := 1) (by decide +kernel) rfl ?_
      refine g_aload_n (i := 0) (by decide +kernel) rfl ?_
      refine g_iload_n (i := 1) (by decide +kernel) rfl ?_
      refine g_iconst (a := 3) (by decide +kernel) ?_
      refine g_cVI (st := _) (c_Md_marked (k := k) (w := 3) hn (by omega) (by omega)) k_Md_marked l_Md_192 (by decide +kernel) (by omega) rfl rfl rfl rfl (Nat.le_of_ble_eq_true rfl) (by decide) ⟨by decide, by decide⟩ ?_
      rintro a9 σ9 ⟨ea9, hσ9⟩
      obtain rfl := hσ9.symm
      rw [zs_other (show 190 ≠ 192 by decide)] at ea9
      subst ea9
      refine g_i2l (by decide +kernel) ⟨by omega, by omega⟩ ?_
      refine g_last (j := k) (by decide +kernel) (by omega) rfl (by omega) (by omega) (by decide) ?_
      refine g_iinc (i := 1) (b := -1) (L' := [(0, _), (1, _), (2, _)]) (by decide +kernel) rfl rfl rfl ?_
      refine g_goto (off := -145) (tgt := 30) (by decide +kernel) (by decide) ?_
      refine g_less [0, 1] rfl ?_
      first
        | (have hz3 : υ 190 (38 + 9 * k + 3) < zAcW S ((zsa S).1 k) k := h156
           rw [zs_zs]
           refine kk _ (fin _ ?_)
           rw [L.2]
           unfold zAc
           rw [if_pos (by omega)]
           exact m3)
        | (rw [← ea]
           refine kk _ (fin _ ?_)
           rw [L.2]
           unfold zAc
           rw [if_neg (by omega)])
theorem s_Md_laysAll {G : zG} {X : zX} {n : Nat} {σ : zSt} {S : zSt} {d r : Nat → Nat} (hn : 220 ≤ n) (hS : zMc σ S) (hv : zVal S d r) {υ : zSt} {k : Nat} (hk : k < zN S) (g0 : zMf1 σ υ) (g1 : ∀ j, k < j → j < zN S → υ 191 j = (zsa S).1 j) (g5 : S 7 (9 * k) ≤ 0 → υ 191 k = (zsa S).1 k) (g2 : ∀ j, k < j → j < zN S → υ 192 j = (zsa S).2 j) (g3 : ∀ j, j < zN S → (k : Int) ≤ S 2 j → υ 193 j = zBe S (zsa S).2 j ∧ υ 194 j = (if zOk S j = true then 1 else 0)) (g4 : ∀ j, j < zN S → S 2 j < k → υ 194 j = 0) {post : zPost} (kk : ∀ υ, zLi σ υ S k → Go G X m_Md_laysAll (3, 0, 0, 0, 0) n SH υ 30 [(0, vr G 189), (1, vi ((k : Int) - 1))] [] post) : Go G X m_Md_laysAll (3, 0, 0, 0, 0) n SH υ 71 [(0, vr G 189), (1, vi (k : Int))] [] post := by
  have e0 := hS.n
  have hN := hS.N
  have hz : zN S = (S 0 0).toNat := rfl
  have hl := hS.2.2.lay
  have hT : zMc υ S := hS.moved (g0 190 (by decide))
  have L := hl k hk
  have hk12 : k < 12 := by omega
  have m0 := hT.mk hk (show 0 < 9 by decide)
  have r0 := hT.mr hk12 (show 0 < 9 by decide)
  rw [Nat.add_zero (9 * k)] at m0 r0
  refine g_aload_n (i := 0) (by decide +kernel) rfl ?_
  refine g_iload_n (i := 1) (by decide +kernel) rfl ?_
  refine g_iconst (a := 0) (by decide +kernel) ?_
  refine g_cVI (st := _) (c_Md_marked (k := k) (w := 0) hn (by omega) (by omega)) k_Md_marked l_Md_192 (by decide +kernel) (by omega) rfl rfl rfl rfl (Nat.le_of_ble_eq_true rfl) (by decide) ⟨by decide, by decide⟩ ?_
  rintro a9 σ9 ⟨ea9, hσ9⟩
  obtain rfl := hσ9.symm
  subst ea9
  refine g_if_le (off := 16) (tgt := 93) (by decide +kernel) (by decide) ⟨by omega, by omega⟩ (fun h77 => ?_) (fun h77 => ?_)
  · first
      | (have hz0 : υ 190 (38 + 9 * k + 0) ≤ 0 := h77
         refine t_Md_laysAll hn hS hv hk g0 (fun j h1 h2 => ?_) g2 g3 g4 kk
         rcases Nat.lt_or_ge k j with z | z
         · exact g1 j z h2
         · rw [show j = k by omega]; exact g5 (by omega))
      | (refine t_Md_laysAll hn hS hv hk (fun a ha => by rw [zs_other (by omega)]; exact g0 a ha) (fun j h1 h2 => ?_) (fun j h1 h2 => by rw [zs_other (by decide)]; exact g2 j h1 h2) (fun j h1 h2 => by rw [zs_other (by decide), zs_other (by decide)]; exact g3 j h1 h2) (fun j h1 h2 => by rw [zs_other (by decide)]; exact g4 j h1 h2) kk
         by_cases z : j = k
         · subst z
           rw [zs_eq, L.1]
           unfold zSi
           rw [if_pos (by omega), m0]
         · rw [zs_ne (fun y => z y.2)]; exact g1 j (by omega) h2)
  · refine g_aload_n (i := 0) (by decide +kernel) rfl ?_
    refine g_getr f_Md_13 (by decide +kernel) (by omega) rfl rfl ?_
    refine g_iload_n (i := 1) (by decide +kernel) rfl ?_
    refine g_aload_n (i := 0) (by decide +kernel) rfl ?_
    refine g_iload_n (i := 1) (by decide +kernel) rfl ?_
    refine g_iconst (a := 0) (by decide +kernel) ?_
    refine g_cVI (st := _) (c_Md_marked (k := k) (w := 0) hn (by omega) (by omega)) k_Md_marked l_Md_192 (by decide +kernel) (by omega) rfl rfl rfl rfl (Nat.le_of_ble_eq_true rfl) (by decide) ⟨by decide, by decide⟩ ?_
    rintro a9 σ9 ⟨ea9, hσ9⟩
    obtain rfl := hσ9.symm
    subst ea9
    refine g_i2l (by decide +kernel) ⟨by omega, by omega⟩ ?_
    refine g_last (j := k) (by decide +kernel) (by omega) rfl (by omega) (by omega) (by decide) ?_
    first
      | (have hz0 : υ 190 (38 + 9 * k + 0) ≤ 0 := h77
         refine t_Md_laysAll hn hS hv hk g0 (fun j h1 h2 => ?_) g2 g3 g4 kk
         rcases Nat.lt_or_ge k j with z | z
         · exact g1 j z h2
         · rw [show j = k by omega]; exact g5 (by omega))
      | (refine t_Md_laysAll hn hS hv hk (fun a ha => by rw [zs_other (by omega)]; exact g0 a ha) (fun j h1 h2 => ?_) (fun j h1 h2 => by rw [zs_other (by decide)]; exact g2 j h1 h2) (fun j h1 h2 => by rw [zs_other (by decide), zs_other (by decide)]; exact g3 j h1 h2) (fun j h1 h2 => by rw [zs_other (by decide)]; exact g4 j h1 h2) kk
         by_cases z : j = k
         · subst z
           rw [zs_eq, L.1]
           unfold zSi
           rw [if_pos (by omega), m0]
         · rw [zs_ne (fun y => z y.2)]; exact g1 j (by omega) h2)
theorem w_Md_laysAll {G : zG} {X : zX} {n : Nat} {σ : zSt} {S : zSt} {d r : Nat → Nat} (hn : 220 ≤ n) (hS : zMc σ S) (hv : zVal S d r)  : ∀ (m : Nat) (i : Nat) (x1 : Int) (τ : zSt), x1 = (i : Int) - 1 → zLi σ τ S i → i ≤ zN S → i < m → Go G X m_Md_laysAll (3, 0, 0, 0, 0) n SH τ 30 [(0, vr G 189), (1, vi x1)] [] (zV n SH (fun σ' => zMf1 σ σ' ∧ zLdA σ' S)) := by
  intro m
  induction m with
  | zero => intro i x1 τ e1 ht hi hm; exact absurd hm (by omega)
  | succ m ih =>
    intro i x1 τ e1 ht hi hm
    have e0 := hS.n
    have hN := hS.N
    have hz : zN S = (S 0 0).toNat := rfl
    have hl := hS.2.2.lay
    have hT : zMc τ S := hS.moved (ht.1 190 (by decide))
    have et := hT.n
    refine g_iload_n (i := 1) (by decide +kernel) rfl ?_
    refine g_if_lt (off := 147) (tgt := 178) (by decide +kernel) (by decide) ⟨by omega, by omega⟩ (fun h31 => ?_) (fun h31 => ?_)
    · refine g_aload_n (i := 0) (by decide +kernel) rfl ?_
      refine g_cVI (st := _) (c_Md_clips hn) k_Md_clips l_Md_148 (by decide +kernel) (by omega) rfl rfl rfl rfl (Nat.le_of_ble_eq_true rfl) (by decide) ⟨by decide, by decide⟩ ?_
      rintro a0 σ9 ⟨ea0, hσ9⟩
      obtain rfl := hσ9.symm
      subst ea0
      refine g_if_le (off := 18) (tgt := 200) (by decide +kernel) (by decide) ⟨by omega, by omega⟩ (fun h182 => ?_) (fun h182 => ?_)
      · refine g_retV (by decide +kernel) rfl ⟨by decide, by decide⟩ ?_
        obtain rfl : i = 0 := by omega
        first
          | (have hz0 : τ 190 0 ≤ 0 := h182
             exact ⟨ht.1, fun k hk => by omega⟩)
          | (have k0 : 0 < zN S := by omega
             have t0 := hv.2.1 0 k0
             have a0 : S 2 0 = -1 := t0.2.2.mp rfl
             refine ⟨fun a ha => by rw [zs_other (by omega)]; exact ht.1 a ha, fun k hk => ?_⟩
             have c := ht.2.1 k (by omega) hk
             rw [zs_other (by decide), zs_other (by decide), zs_other (show 194 ≠ 193 by decide)]
             refine ⟨c.1, c.2, ?_⟩
             by_cases z : k = 0
             · subst z
               rw [zs_eq, ht.2.2.2 0 hk (by omega)]
               unfold zBe zOk
               rw [if_pos a0, if_pos a0]
               exact ⟨hT.mu hk, rfl⟩
             · rw [zs_ne (fun y => z y.2)]
               have tk := hv.2.1 k hk
               exact ht.2.2.1 k hk (by have : ¬ S 2 k = -1 := fun e => z (tk.2.2.mpr e); omega))
      · have r6 := (hS.rg (show 0 < 12 by decide)).2.2.2.2.2
        have k6 : τ 190 170 = S 6 0 := hT.mu (show 0 < zN S by omega)
        refine g_aload_n (i := 0) (by decide +kernel) rfl ?_
        refine g_getr f_Md_20 (by decide +kernel) (by omega) rfl rfl ?_
        refine g_iconst (a := 0) (by decide +kernel) ?_
        refine g_aload_n (i := 0) (by decide +kernel) rfl ?_
        refine g_getr f_Md_7 (by decide +kernel) (by omega) rfl rfl ?_
        refine g_sipush (a := 170) (by decide +kernel) (by decide) ?_
        refine g_iald (j := 170) (by decide +kernel) (by omega) rfl (by omega) (by omega) (by decide) ?_
        refine g_i2l (by decide +kernel) ⟨by omega, by omega⟩ ?_
        refine g_last (j := 0) (by decide +kernel) (by omega) rfl (by omega) (by omega) (by decide) ?_
        refine g_retV (by decide +kernel) rfl ⟨by decide, by decide⟩ ?_
        obtain rfl : i = 0 := by omega
        first
          | (have hz0 : τ 190 0 ≤ 0 := h182
             exact ⟨ht.1, fun k hk => by omega⟩)
          | (have k0 : 0 < zN S := by omega
             have t0 := hv.2.1 0 k0
             have a0 : S 2 0 = -1 := t0.2.2.mp rfl
             refine ⟨fun a ha => by rw [zs_other (by omega)]; exact ht.1 a ha, fun k hk => ?_⟩
             have c := ht.2.1 k (by omega) hk
             rw [zs_other (by decide), zs_other (by decide), zs_other (show 194 ≠ 193 by decide)]
             refine ⟨c.1, c.2, ?_⟩
             by_cases z : k = 0
             · subst z
               rw [zs_eq, ht.2.2.2 0 hk (by omega)]
               unfold zBe zOk
               rw [if_pos a0, if_pos a0]
               exact ⟨hT.mu hk, rfl⟩
             · rw [zs_ne (fun y => z y.2)]
               have tk := hv.2.1 k hk
               exact ht.2.2.1 k hk (by have : ¬ S 2 k = -1 := fun e => z (tk.2.2.mpr e); omega))
    · obtain ⟨k, rfl⟩ : ∃ k, i = k + 1 := ⟨i - 1, by omega⟩
      obtain rfl : x1 = (k : Int) := by omega
      have ki : k < zN S := by omega
      have kr := hS.rg (show k < 12 by omega)
      have kd := hT.kd ki
      have L := hl k ki
      have tr : ∀ j, j < zN S → S 2 j = k → k < j := fun j hj e => by have := hv.tree hj; omega
      have nb := (hv.2.2.1 k ki)
      obtain ⟨υ, eυ⟩ : ∃ υ, υ = zs τ 191 k 10 := ⟨_, rfl⟩
      have u0 : ∀ a, a ≠ 191 → υ a = τ a := fun a ha => by rw [eυ]; exact zs_other ha
      have u1 : ∀ j, j ≠ k → υ 191 j = τ 191 j := fun j hj => by rw [eυ]; exact zs_ne (fun y => hj y.2)
      have uk : υ 191 k = 10 := by rw [eυ]; exact zs_eq _ _ _ _
      have hU : zMc υ S := hT.moved (u0 190 (by decide))
      have kd2 : υ 190 (2 + k) = S 1 k := hU.kd ki
      have c2 : ∀ j, k < j → j < zN S → υ 192 j = (zsa S).2 j := fun j h1 h2 => by rw [u0 192 (by decide)]; exact (ht.2.1 j (by omega) h2).2
      have cA : ∀ j, j < zN S → S 2 j = k → υ 192 j = (zsa S).2 j := fun j h1 h2 => c2 j (tr j h1 h2) h1
      refine g_aload_n (i := 0) (by decide +kernel) rfl ?_
      refine g_getr f_Md_13 (by decide +kernel) (by omega) rfl rfl ?_
      refine g_iload_n (i := 1) (by decide +kernel) rfl ?_
      refine g_ldc2 (x := 180) (a := 10) (by decide +kernel) c_Md_180 (by decide) ?_
      refine g_last (j := k) (by decide +kernel) (by omega) rfl (by omega) (by omega) (by decide) ?_
      refine g_aload_n (i := 0) (by decide +kernel) rfl ?_
      refine g_iload_n (i := 1) (by decide +kernel) rfl ?_
      rw [← eυ]
      refine g_cVI (st := _) (c_Md_kind (k := k) hn (by omega)) k_Md_kind l_Md_182 (by decide +kernel) (by omega) rfl rfl rfl rfl (Nat.le_of_ble_eq_true rfl) (by decide) ⟨by decide, by decide⟩ ?_
      rintro a9 σ9 ⟨ea9, hσ9⟩
      obtain rfl := hσ9.symm
      rw [kd2] at ea9
      subst ea9
      refine g_iconst (a := 1) (by decide +kernel) ?_
      refine g_icmp_ne (off := 8) (tgt := 57) (by decide +kernel) (by decide) ⟨by omega, by omega⟩ ⟨by omega, by omega⟩ (fun h49 => ?_) (fun h49 => ?_)
      · refine g_aload_n (i := 0) (by decide +kernel) rfl ?_
        refine g_iload_n (i := 1) (by decide +kernel) rfl ?_
        refine g_cVI (st := _) (c_Md_kind (k := k) hn (by omega)) k_Md_kind l_Md_182 (by decide +kernel) (by omega) rfl rfl rfl rfl (Nat.le_of_ble_eq_true rfl) (by decide) ⟨by decide, by decide⟩ ?_
        rintro a9 σ9 ⟨ea9, hσ9⟩
        obtain rfl := hσ9.symm
        rw [kd2] at ea9
        subst ea9
        refine g_iconst (a := 2) (by decide +kernel) ?_
        refine g_icmp_ne (off := 8) (tgt := 71) (by decide +kernel) (by decide) ⟨by omega, by omega⟩ ⟨by omega, by omega⟩ (fun h63 => ?_) (fun h63 => ?_)
        · refine s_Md_laysAll hn hS hv ki (fun a ha => by rw [u0 a (by omega)]; exact ht.1 a ha) (fun j h1 h2 => by rw [u1 j (by omega)]; exact (ht.2.1 j (by omega) h2).1) (fun h0 => ?_) c2 (fun j h1 h2 => ?_) (fun j h1 h2 => by rw [u0 194 (by decide)]; exact ht.2.2.2 j h1 (by push_cast; omega)) (fun υ h => ih k _ υ rfl h (by omega) (by omega))
          · rw [uk, L.1]
            unfold zSi
            rw [if_neg (by omega), if_pos (by omega)]
          · rw [u0 193 (by decide), u0 194 (by decide)]
            refine ht.2.2.1 j h1 ?_
            have : S 2 j ≠ k := fun e => by
              have := (hv.2.2.1 j h1).2.2.2.1 (by have := tr j h1 e; omega)
              rw [show (S 2 j).toNat = k by omega] at this
              omega
            push_cast
            omega
        · refine g_aload_n (i := 0) (by decide +kernel) rfl ?_
          refine g_iload_n (i := 1) (by decide +kernel) rfl ?_
          refine g_cVV (st := _) (c_Md_laysRow (q := k) hn hU hv ki cA) k_Md_laysRow l_Md_189 (by decide +kernel) (by omega) rfl rfl rfl rfl (Nat.le_of_ble_eq_true rfl) (by decide) ⟨by decide, by decide⟩ ?_
          rintro σ9 hq9
          obtain ⟨ω, hω, eω⟩ := hq9
          have v191 : σ9 191 = zu (υ 191) k (zEn S (zsa S).2 k 12) := by rw [eω, zs_row, hω.1 191 (by decide)]
          have vo : ∀ a, a ≠ 191 → a ≠ 193 → σ9 a = υ a := fun a a1 a2 => by rw [eω, zs_other a1]; exact hω.1 a a2
          have w3 : σ9 193 = ω 193 := by rw [eω, zs_other (by decide)]
          refine s_Md_laysAll hn hS hv ki (fun a ha => by rw [vo a (by omega) (by omega), u0 a (by omega)]; exact ht.1 a ha) (fun j h1 h2 => by rw [v191, zu_ne (by omega), u1 j (by omega)]; exact (ht.2.1 j (by omega) h2).1) (fun h0 => ?_) (fun j h1 h2 => by rw [vo 192 (by decide) (by decide)]; exact c2 j h1 h2) (fun j h1 h2 => ?_) (fun j h1 h2 => ?_) (fun υ h => ih k _ υ rfl h (by omega) (by omega))
          · rw [v191, zu_eq, L.1]
            unfold zSi
            rw [if_neg (by omega), if_neg (by omega), if_pos (by omega)]
          · rw [w3, vo 194 (by decide) (by decide), u0 194 (by decide)]
            by_cases e : S 2 j = k
            · rw [hω.2.1 j h1 e (by have := (hv.2.2.2.2.1 j h1).2.1; omega), ht.2.2.2 j h1 (by push_cast; omega)]
              have b1 : zBe S (zsa S).2 j = zEn S (zsa S).2 k (S 3 j).toNat + S 6 j := by unfold zBe; rw [if_neg (by omega), show (S 2 j).toNat = k by omega, if_pos (by omega)]
              have b2 : zOk S j = false := by unfold zOk; rw [if_neg (by omega), show (S 2 j).toNat = k by omega, if_pos (by omega)]
              rw [b1, b2]
              exact ⟨rfl, rfl⟩
            · rw [hω.2.2 j (fun y => e y.2.1), u0 193 (by decide)]
              exact ht.2.2.1 j h1 (by push_cast; omega)
          · rw [vo 194 (by decide) (by decide), u0 194 (by decide)]
            exact ht.2.2.2 j h1 (by push_cast; omega)
      · refine g_aload_n (i := 0) (by decide +kernel) rfl ?_
        refine g_iload_n (i := 1) (by decide +kernel) rfl ?_
        refine g_cVV (st := _) (c_Md_laysHeap (q := k) hn hU hv ki cA (fun j h1 h2 => zBg_bd hv hl ki h1 h2)) k_Md_laysHeap l_Md_185 (by decide +kernel) (by omega) rfl rfl rfl rfl (Nat.le_of_ble_eq_true rfl) (by decide) ⟨by decide, by decide⟩ ?_
        rintro σ9 hq9
        obtain ⟨ω, hω, eω⟩ := hq9
        have v191 : σ9 191 = zu (υ 191) k (zMx S (zsa S).2 k (zN S)) := by rw [eω, zs_row, hω.1 191 (by decide) (by decide) (by decide)]
        have vo : ∀ a, a ≠ 191 → a ≠ 193 → a ≠ 194 → a ≠ 195 → σ9 a = υ a := fun a a1 a2 a3 a4 => by rw [eω, zs_other a1]; exact hω.1 a a2 a3 a4
        have vk : σ9 190 (2 + k) = S 1 k := by rw [vo 190 (by decide) (by decide) (by decide) (by decide)]; exact kd2
        have w3 : σ9 193 = ω 193 := by rw [eω, zs_other (by decide)]
        have w4 : σ9 194 = ω 194 := by rw [eω, zs_other (by decide)]
        refine g_aload_n (i := 0) (by decide +kernel) rfl ?_
        refine g_iload_n (i := 1) (by decide +kernel) rfl ?_
        refine g_cVI (st := _) (c_Md_kind (k := k) hn (by omega)) k_Md_kind l_Md_182 (by decide +kernel) (by omega) rfl rfl rfl rfl (Nat.le_of_ble_eq_true rfl) (by decide) ⟨by decide, by decide⟩ ?_
        rintro a8 σ8 ⟨ea8, hσ8⟩
        obtain rfl := hσ8.symm
        rw [vk] at ea8
        subst ea8
        refine g_iconst (a := 2) (by decide +kernel) ?_
        refine g_icmp_ne (off := 8) (tgt := 71) (by decide +kernel) (by decide) ⟨by omega, by omega⟩ ⟨by omega, by omega⟩ (fun h63 => ?_) (fun h63 => ?_)
        · refine s_Md_laysAll hn hS hv ki (fun a ha => by rw [vo a (by omega) (by omega) (by omega) (by omega), u0 a (by omega)]; exact ht.1 a ha) (fun j h1 h2 => by rw [v191, zu_ne (by omega), u1 j (by omega)]; exact (ht.2.1 j (by omega) h2).1) (fun h0 => ?_) (fun j h1 h2 => by rw [vo 192 (by decide) (by decide) (by decide) (by decide)]; exact c2 j h1 h2) (fun j h1 h2 => ?_) (fun j h1 h2 => ?_) (fun υ h => ih k _ υ rfl h (by omega) (by omega))
          · rw [v191, zu_eq, L.1]
            unfold zSi
            rw [if_neg (by omega), if_neg (by omega), if_neg (by omega)]
          · rw [w3, w4]
            by_cases e : S 2 j = k
            · have q := hω.2.1 j h1 e
              have b1 : zBe S (zsa S).2 j = zBg S (zsa S).2 j := by unfold zBe; rw [if_neg (by omega), show (S 2 j).toNat = k by omega, if_neg (by omega)]
              have b2 : zOk S j = zOp S j := by unfold zOk; rw [if_neg (by omega), show (S 2 j).toNat = k by omega, if_neg (by omega)]
              rw [q.1, q.2, b1, b2]
              exact ⟨rfl, rfl⟩
            · have q := hω.2.2 j (fun y => e y.2)
              rw [q.1, q.2, u0 193 (by decide), u0 194 (by decide)]
              exact ht.2.2.1 j h1 (by push_cast; omega)
          · rw [w4, (hω.2.2 j (fun y => by omega)).2, u0 194 (by decide)]
            exact ht.2.2.2 j h1 (by push_cast; omega)
        · refine g_aload_n (i := 0) (by decide +kernel) rfl ?_
          refine g_iload_n (i := 1) (by decide +kernel) rfl ?_
          exact absurd h63 (by omega)
theorem w0_Md_laysAll {G : zG} {X : zX} {n : Nat} {σ : zSt} {S : zSt} {d r : Nat → Nat} (hn : 220 ≤ n) (hS : zMc σ S) (hv : zVal S d r)  : ∀ (m : Nat) (i : Nat) (x1 : Int) (τ : zSt), x1 = (i : Int) → (∀ a, a ≠ 194 → τ a = σ a) → (∀ j, j < i → τ 194 j = 0) → i ≤ zN S → zN S < i + m → Go G X m_Md_laysAll (3, 0, 0, 0, 0) n SH τ 2 [(0, vr G 189), (1, vi x1)] [] (zV n SH (fun σ' => zMf1 σ σ' ∧ zLdA σ' S)) := by
  intro m
  induction m with
  | zero => intro i x1 τ e1 ht h0 hi hm; exact absurd hm (by omega)
  | succ m ih =>
    intro i x1 τ e1 ht h0 hi hm
    have e0 := hS.n
    have hN := hS.N
    have hz : zN S = (S 0 0).toNat := rfl
    have hl := hS.2.2.lay
    have hT : zMc τ S := hS.moved (ht 190 (by decide))
    have et := hT.n
    subst e1
    refine g_iload_n (i := 1) (by decide +kernel) rfl ?_
    refine g_aload_n (i := 0) (by decide +kernel) rfl ?_
    refine g_cVI (st := _) (c_Md_clips hn) k_Md_clips l_Md_148 (by decide +kernel) (by omega) rfl rfl rfl rfl (Nat.le_of_ble_eq_true rfl) (by decide) ⟨by decide, by decide⟩ ?_
    rintro a0 σ9 ⟨ea0, hσ9⟩
    obtain rfl := hσ9.symm
    subst ea0
    refine g_icmp_ge (off := 16) (tgt := 23) (by decide +kernel) (by decide) ⟨by omega, by omega⟩ ⟨by omega, by omega⟩ (fun h7 => ?_) (fun h7 => ?_)
    · refine g_aload_n (i := 0) (by decide +kernel) rfl ?_
      refine g_cVI (st := _) (c_Md_clips hn) k_Md_clips l_Md_148 (by decide +kernel) (by omega) rfl rfl rfl rfl (Nat.le_of_ble_eq_true rfl) (by decide) ⟨by decide, by decide⟩ ?_
      rintro a0 σ9 ⟨ea0, hσ9⟩
      obtain rfl := hσ9.symm
      subst ea0
      refine g_iconst (a := 1) (by decide +kernel) ?_
      refine g_isub (by decide +kernel) ?_
      refine g_istore_n (i := 1) (L' := [(0, _), (1, _)]) (by decide +kernel) rfl rfl ?_
      refine w_Md_laysAll hn hS hv (zN S + 1) (zN S) _ τ (by omega) ⟨fun a ha => ht a (by omega), fun k h1 h2 => by omega, fun j h1 h2 => ?_, fun j h1 _ => h0 j (by omega)⟩ (by omega) (by omega)
      have := hv.tree h1
      omega
    · refine g_aload_n (i := 0) (by decide +kernel) rfl ?_
      refine g_getr f_Md_23 (by decide +kernel) (by omega) rfl rfl ?_
      refine g_iload_n (i := 1) (by decide +kernel) rfl ?_
      refine g_iconst (a := 0) (by decide +kernel) ?_
      refine g_zast (j := i) (by decide +kernel) (by omega) rfl (by omega) (by omega) (by decide) (by omega) ?_
      refine g_iinc (i := 1) (b := 1) (L' := [(0, _), (1, _)]) (by decide +kernel) rfl rfl rfl ?_
      refine g_goto (off := -18) (tgt := 2) (by decide +kernel) (by decide) ?_
      refine ih (i + 1) _ _ (by omega) (fun a ha => by rw [zs_other ha]; exact ht a ha) (fun j hj => ?_) (by omega) (by omega)
      by_cases z : j = i
      · subst z; rw [zs_eq]
      · rw [zs_ne (fun y => z y.2)]; exact h0 j (by omega)
theorem c_Md_laysAll {G : zG} {n : Nat} {σ : zSt} {S : zSt} (hn : 220 ≤ n) (hS : zMc σ S)  : Gm G y_Md_laysAll m_Md_laysAll 3 0 0 [vr G 189] n SH σ (zV n SH (fun σ' => zMf1 σ σ' ∧ zLdA σ' S)) := by
  refine g_enter (L := [(0, _)]) (by decide) rfl rfl rfl (Nat.le_of_ble_eq_true rfl) (fun X => ?_)
  obtain ⟨d, r, hv⟩ := hS.2.2.1
  refine g_iconst (a := 0) (by decide +kernel) ?_
  refine g_istore_n (i := 1) (L' := [(0, _), (1, _)]) (by decide +kernel) rfl rfl ?_
  exact w0_Md_laysAll hn hS hv (zN S + 1) 0 _ σ rfl (fun _ _ => rfl) (fun j hj => by omega) (by omega) (by omega)
theorem c_Md_lasts {G : zG} {n : Nat} {σ : zSt} {S : zSt} (hn : 220 ≤ n) (hS : zMc σ S)  : Gm G y_Md_lasts m_Md_lasts 4 0 0 [vr G 189] n SH σ (zL n SH (fun a σ' => a = zlast S ∧ zMf1 σ σ' ∧ zLdA σ' S)) := by
  refine g_enter (L := [(0, _)]) (by decide) rfl rfl rfl (Nat.le_of_ble_eq_true rfl) (fun X => ?_)
  have e0 := hS.n
  have hN := hS.N
  have hz : zN S = (S 0 0).toNat := rfl
  refine g_aload_n (i := 0) (by decide +kernel) rfl ?_
  refine g_cVV (st := _) (c_Md_laysAll hn hS) k_Md_laysAll l_Md_195 (by decide +kernel) (by omega) rfl rfl rfl rfl (Nat.le_of_ble_eq_true rfl) (by decide) ⟨by decide, by decide⟩ ?_
  rintro τ ⟨hf, hl⟩
  have et : τ 190 0 = S 0 0 := by rw [hf 190 (by decide)]; exact e0
  refine g_aload_n (i := 0) (by decide +kernel) rfl ?_
  refine g_cVI (st := _) (c_Md_clips hn) k_Md_clips l_Md_148 (by decide +kernel) (by omega) rfl rfl rfl rfl (Nat.le_of_ble_eq_true rfl) (by decide) ⟨by decide, by decide⟩ ?_
  rintro a0 σ9 ⟨ea0, hσ9⟩
  obtain rfl := hσ9.symm
  subst ea0
  refine g_if_ne (off := 7) (tgt := 15) (by decide +kernel) (by decide) ⟨by omega, by omega⟩ (fun h8 => ?_) (fun h8 => ?_)
  · refine g_aload_n (i := 0) (by decide +kernel) rfl ?_
    refine g_getr f_Md_20 (by decide +kernel) (by omega) rfl rfl ?_
    refine g_iconst (a := 0) (by decide +kernel) ?_
    refine g_lald (j := 0) (by decide +kernel) (by omega) rfl (by omega) (by omega) (by decide) ?_
    refine g_aload_n (i := 0) (by decide +kernel) rfl ?_
    refine g_getr f_Md_17 (by decide +kernel) (by omega) rfl rfl ?_
    refine g_iconst (a := 0) (by decide +kernel) ?_
    refine g_lald (j := 0) (by decide +kernel) (by omega) rfl (by omega) (by omega) (by decide) ?_
    refine g_ladd (by decide +kernel) ?_
    refine g_retL (by decide +kernel) rfl ⟨by decide, by decide⟩ ?_
    refine ⟨?_, hf, hl⟩
    unfold zlast
    first
      | (have hz0 : τ 190 0 = 0 := h8
         rw [if_pos (by omega)])
      | (have hz0 : ¬ τ 190 0 = 0 := h8
         rw [if_neg (by omega)]
         have c := hl 0 (by omega)
         rw [c.2.2.1, c.2.1]
         unfold zBe
         obtain ⟨d, r, hv⟩ := hS.2.2.1
         rw [if_pos ((hv.2.1 0 (by omega)).2.2.mp rfl)])
  · refine g_lconst (c := 0) (a := 0) (by decide +kernel) (by decide) ?_
    refine g_goto (off := 16) (tgt := 28) (by decide +kernel) (by decide) ?_
    refine g_retL (by decide +kernel) rfl ⟨by decide, by decide⟩ ?_
    refine ⟨?_, hf, hl⟩
    unfold zlast
    first
      | (have hz0 : τ 190 0 = 0 := h8
         rw [if_pos (by omega)])
      | (have hz0 : ¬ τ 190 0 = 0 := h8
         rw [if_neg (by omega)]
         have c := hl 0 (by omega)
         rw [c.2.2.1, c.2.1]
         unfold zBe
         obtain ⟨d, r, hv⟩ := hS.2.2.1
         rw [if_pos ((hv.2.1 0 (by omega)).2.2.mp rfl)])
