/-! SHARES -/
theorem zlt_in2 {sg sd : Nat → Int} : ∀ i, (∀ j, j < i → 0 ≤ sg (sd j).toNat ∧ sg (sd j).toNat ≤ 100) → 0 ≤ zlt sg sd i ∧ zlt sg sd i ≤ 100
  | 0, _ => ⟨show (0 : Int) ≤ 100 by decide, show (100 : Int) ≤ 100 by decide⟩
  | i + 1, hs => by
    have a := zlt_in2 i (fun j hj => hs j (by omega))
    have b := hs i (by omega)
    have c0 : 0 ≤ zlt sg sd i * sg (sd i).toNat := Int.mul_nonneg a.1 b.1
    have c1 : zlt sg sd i * sg (sd i).toNat ≤ zlt sg sd i * 100 := Int.mul_le_mul_of_nonneg_left b.2 a.1
    rw [zlt_s]
    have d0 : 0 ≤ zlt sg sd i * sg (sd i).toNat / 100 := Int.ediv_nonneg c0 (by decide)
    have d1 : zlt sg sd i * sg (sd i).toNat / 100 ≤ zlt sg sd i := by omega
    omega
section SHR
variable {S : zSt} {sd : Nat → Int} {t : Int} {k : Nat}
theorem zv_sh (h : zMz S) (hs : zStand S sd (zlvs S)) (t : Int) : (∀ i, i < zlvs S → zv S t 7 (sd i).toNat = zlt (zv S t 6) sd i * zv S t 6 (sd i).toNat / 100) ∧ zv S t 0 1 = zlt (zv S t 6) sd (zlvs S) := by
  obtain ⟨si, ac, P, -, -, -, sd', s1, s2, s3⟩ := h.2.1 t
  have D := zStand_uniq hs s1
  have Z : ∀ i, i ≤ zlvs S → zlt (zv S t 6) sd i = zlt (zv S t 6) sd' i := fun i hi => zlt_congr i (fun j hj => ⟨D j (by omega), rfl⟩)
  refine ⟨fun i hi => ?_, by rw [Z _ (Nat.le_refl _)]; exact s3⟩
  rw [D i hi, Z i (by omega)]
  exact s2 i hi
theorem zv_s7 (h : zMz S) (hs : zStand S sd (zlvs S)) (hk : k < zN S) (lk : S 1 k = 0) : 0 ≤ zv S t 7 k ∧ zv S t 7 k ≤ 100 := by
  obtain ⟨i, hi, rfl⟩ := hs.all hk lk
  have F := (zv_sh h hs t).1 i hi
  have g : ∀ j, j < zlvs S → 0 ≤ zv S t 6 (sd j).toNat ∧ zv S t 6 (sd j).toNat ≤ 100 := fun j hj => zv_sg h (hs j hj).2.1
  have a := zlt_in2 (sg := zv S t 6) (sd := sd) i (fun j hj => g j (by omega))
  have b := g i hi
  have c0 : 0 ≤ zlt (zv S t 6) sd i * zv S t 6 (sd i).toNat := Int.mul_nonneg a.1 b.1
  have c1 : zlt (zv S t 6) sd i * zv S t 6 (sd i).toNat ≤ 100 * 100 := Int.mul_le_mul a.2 b.2 b.1 (by decide)
  rw [F]
  exact ⟨Int.ediv_nonneg c0 (by decide), by omega⟩
end SHR
def zLs (τ S : zSt) : Prop := zPd τ S ∧ τ 189 35 = (zlvs S : Int) ∧ zStand S (τ 208) (zlvs S)
def zShs (σ σ' S : zSt) (t : Int) : Prop := (∀ a, (a < 189 ∨ (189 < a ∧ a < 202) ∨ (206 < a ∧ a ≠ 209)) → σ' a = σ a) ∧ (∀ j, j ≠ 36 → σ' 189 j = σ 189 j) ∧ zLs σ' S ∧ zSo2 σ' S 6 t (zN S) ∧ (∀ k, k < zN S → S 1 k = 0 → σ' 209 k = zv S t 7 k) ∧ σ' 189 36 = zv S t 0 1
theorem zPd.moved {σ τ S : zSt} (h : zPd σ S) (e : ∀ a, (a = 190 ∨ (191 ≤ a ∧ a ≤ 194) ∨ (202 ≤ a ∧ a ≤ 207)) → τ a = σ a) : zPd τ S := by
  obtain ⟨hM, hS, hL, hO, hP⟩ := h
  refine ⟨hM, hS.moved (e 190 (by omega)), hL.moved (e _ (by omega)) (e _ (by omega)) (e _ (by omega)) (e _ (by omega)), fun i hi => by rw [e 207 (by omega)]; exact hO i hi, fun i hi k hk => ?_⟩
  rw [e 202 (by omega), e 203 (by omega), e 204 (by omega), e 205 (by omega), e 206 (by omega)]
  exact hP i hi k hk
theorem zSo2.moved {σ τ S : zSt} {s K : Nat} {t : Int} (h : zSo2 σ S s t K) (e : ∀ a, (202 ≤ a ∧ a ≤ 206) → τ a = σ a) : zSo2 τ S s t K := fun k hk => by
  rw [e 202 (by omega), e 203 (by omega), e 204 (by omega), e 205 (by omega), e 206 (by omega)]
  exact h k hk
theorem w_Md_laysShares {G : zG} {X : zX} {n : Nat} {σ : zSt} {S : zSt} {t : Int} (hn : 220 ≤ n) (hL : zLs σ S) (ht : 0 ≤ t ∧ t ≤ 1999)  : ∀ (m : Nat) (i : Nat) (x2 : Int) (τ : zSt) (L3 : List (Nat × Value)), x2 = (i : Int) → (∀ a, (a < 189 ∨ (189 < a ∧ a < 202) ∨ (206 < a ∧ a ≠ 209)) → τ a = σ a) → (∀ j, j ≠ 36 → τ 189 j = σ 189 j) → zPd τ S → zSo2 τ S 6 t (zN S) → τ 189 36 = zlt (zv S t 6) (σ 208) i → (∀ j, j < i → τ 209 (σ 208 j).toNat = zv S t 7 (σ 208 j).toNat) → (L3 = [] ∨ ∃ v, L3 = [(3, vi v)]) → i ≤ zlvs S → zlvs S < i + m → Go G X m_Md_laysShares (17, 0, 0, 0, 0) n SH τ 15 ([(0, vr G 189), (1, vi t), (2, vi x2)] ++ L3) [] (zV n SH (fun σ' => zShs σ σ' S t)) := by
  intro m
  induction m with
  | zero => intro i x2 τ L3 e2 t1 t2 hP h6 t36 t9 h3 hi hm; exact absurd hm (by omega)
  | succ m ih =>
    intro i x2 τ L3 e2 t1 t2 hP h6 t36 t9 h3 hi hm
    obtain ⟨hP0, hL1, hL2⟩ := id hL
    obtain ⟨hM, hS, hl, hO, hpp⟩ := id hP
    have e0 := hS.n
    have e8 := hS.p
    have hN := hS.N
    have hz : zN S = (S 0 0).toNat := rfl
    subst e2
    have lz : zlvs S ≤ zN S := zcnt_le _ _
    refine g_less [0, 1, 2] (L' := [(0, vr G 189), (1, vi t), (2, vi (i : Int))]) (by rcases h3 with rfl | ⟨v, rfl⟩ <;> rfl) ?_
    have t35 : τ 189 35 = (zlvs S : Int) := by rw [t2 35 (by decide)]; exact hL1
    have F := zv_sh hM hL2 t
    have b6 : ∀ j, j < zlvs S → 0 ≤ zv S t 6 (σ 208 j).toNat ∧ zv S t 6 (σ 208 j).toNat ≤ 100 := fun j hj => zv_sg hM (hL2 j hj).2.1
    have a36 := zlt_in2 (sg := zv S t 6) (sd := σ 208) i (fun j hj => b6 j (by omega))
    refine g_iload_n (i := 2) (by decide +kernel) rfl ?_
    refine g_aload_n (i := 0) (by decide +kernel) rfl ?_
    refine g_geti f_Md_403 (by decide +kernel) (by omega) rfl rfl ?_
    refine g_icmp_ge (off := 54) (tgt := 74) (by decide +kernel) (by decide) ⟨by omega, by omega⟩ ⟨by omega, by omega⟩ (fun h20 => ?_) (fun h20 => ?_)
    · refine g_retV (by decide +kernel) rfl ⟨by decide, by decide⟩ ?_
      have ei : i = zlvs S := by omega
      subst ei
      refine ⟨t1, t2, ⟨hP, t35, by rw [t1 208 (by omega)]; exact hL2⟩, h6, fun k hk lk => ?_, by rw [t36, F.2]⟩
      obtain ⟨j, hj, rfl⟩ := hL2.all hk lk
      exact t9 j hj
    · have q := hL2 i (by omega)
      obtain ⟨k, ek⟩ := Int.eq_ofNat_of_zero_le q.1
      have t8 : τ 208 i = (k : Int) := by rw [t1 208 (by omega)]; exact ek
      have b := b6 i (by omega)
      have es := F.1 i (by omega)
      have ez := zlt_s (zv S t 6) (σ 208) i
      rw [ek, Int.toNat_natCast] at q b es ez
      have k6 := (zS6 h6 q.2.1).2.2.2.2
      have c0 : 0 ≤ zlt (zv S t 6) (σ 208) i * zv S t 6 k := Int.mul_nonneg a36.1 b.1
      have c1 : zlt (zv S t 6) (σ 208) i * zv S t 6 k ≤ 100 * 100 := Int.mul_le_mul a36.2 b.2 b.1 (by decide)
      obtain ⟨υ, eυ⟩ : ∃ υ, υ = zs τ 209 k (zv S t 7 k) := ⟨_, rfl⟩
      have u36 : υ 189 36 = zlt (zv S t 6) (σ 208) i := by rw [eυ, zs_other (by decide)]; exact t36
      have u9 : υ 209 k = zv S t 7 k := by rw [eυ, zs_eq]
      refine g_aload_n (i := 0) (by decide +kernel) rfl ?_
      refine g_getr f_Md_106 (by decide +kernel) (by omega) rfl rfl ?_
      refine g_iload_n (i := 2) (by decide +kernel) rfl ?_
      refine g_iald (j := i) (by decide +kernel) (by omega) rfl (by omega) (by omega) (by decide) ?_
      rw [t8]
      refine g_istore_n (i := 3) (L' := [(0, _), (1, _), (2, _), (3, _)]) (by decide +kernel) rfl rfl ?_
      refine g_aload_n (i := 0) (by decide +kernel) rfl ?_
      refine g_getr f_Md_109 (by decide +kernel) (by omega) rfl rfl ?_
      refine g_iload_n (i := 3) (by decide +kernel) rfl ?_
      refine g_aload_n (i := 0) (by decide +kernel) rfl ?_
      refine g_geti f_Md_409 (by decide +kernel) (by omega) rfl rfl ?_
      refine g_aload_n (i := 0) (by decide +kernel) rfl ?_
      refine g_getr f_Md_100 (by decide +kernel) (by omega) rfl rfl ?_
      refine g_bipush (a := 72) (by decide +kernel) (by decide) ?_
      refine g_iload_n (i := 3) (by decide +kernel) rfl ?_
      refine g_iadd (by decide +kernel) ?_
      refine g_iald (j := (72 + k)) (by decide +kernel) (by omega) rfl (by omega) (by omega) (by decide) ?_
      refine g_imul (by decide +kernel) ?_
      rw [t36, k6]
      refine g_bipush (a := 100) (by decide +kernel) (by decide) ?_
      refine g_idiv (by decide +kernel) ⟨by omega, by omega, by omega, by omega⟩ ?_
      rw [← es]
      refine g_iast (j := k) (by decide +kernel) (by omega) rfl (by omega) (by omega) (by decide) ?_
      rw [← eυ]
      refine g_aload_n (i := 0) (by decide +kernel) rfl ?_
      refine g_dup (by decide +kernel) rfl ?_
      refine g_geti f_Md_409 (by decide +kernel) (by omega) rfl rfl ?_
      refine g_aload_n (i := 0) (by decide +kernel) rfl ?_
      refine g_getr f_Md_109 (by decide +kernel) (by omega) rfl rfl ?_
      refine g_iload_n (i := 3) (by decide +kernel) rfl ?_
      refine g_iald (j := k) (by decide +kernel) (by omega) rfl (by omega) (by omega) (by decide) ?_
      rw [u36, u9]
      refine g_isub (by decide +kernel) ?_
      refine g_puti f_Md_409 (by decide +kernel) (by omega) rfl rfl ?_
      refine g_iinc (i := 2) (b := 1) (L' := [(0, _), (1, _), (2, _), (3, _)]) (by decide +kernel) rfl rfl rfl ?_
      refine g_goto (off := -56) (tgt := 15) (by decide +kernel) (by decide) ?_
      rw [es, ← ez]
      refine ih (i + 1) _ _ [(3, vi (k : Int))] (by push_cast; rfl) (fun a ha => by rw [zs_other (by omega), eυ, zs_other (by omega)]; exact t1 a ha) (fun j hj => by rw [zs_ne (fun y => hj y.2), eυ, zs_other (by decide)]; exact t2 j hj) (hP.moved (fun a ha => by rw [zs_other (by omega), eυ, zs_other (by omega)])) (h6.moved (fun a ha => by rw [zs_other (by omega), eυ, zs_other (by omega)])) (by rw [zs_eq]) (fun j hj => ?_) (Or.inr ⟨_, rfl⟩) (by omega) (by omega)
      rw [zs_other (by decide), eυ]
      by_cases z : (σ 208 j).toNat = k
      · rw [z, zs_eq]
      · rw [zs_ne (fun y => z y.2)]
        refine t9 j ?_
        rcases Nat.lt_or_ge j i with y | y
        · exact y
        · rw [show j = i by omega, ek, Int.toNat_natCast] at z; exact absurd rfl z
theorem c_Md_laysShares {G : zG} {n : Nat} {σ : zSt} {S : zSt} {t : Int} (hn : 220 ≤ n) (hL : zLs σ S) (ht : 0 ≤ t ∧ t ≤ 1999)  : Gm G y_Md_laysShares m_Md_laysShares 17 0 0 [vr G 189, vi t] n SH σ (zV n SH (fun σ' => zShs σ σ' S t)) := by
  refine g_enter (L := [(0, _), (1, _)]) (by decide) rfl rfl rfl (Nat.le_of_ble_eq_true rfl) (fun X => ?_)
  obtain ⟨hP0, hL1, hL2⟩ := id hL
  obtain ⟨hM, hS, hl, hO, hpp⟩ := id hP0
  have e0 := hS.n
  have e8 := hS.p
  have hN := hS.N
  have hz : zN S = (S 0 0).toNat := rfl
  refine g_aload_n (i := 0) (by decide +kernel) rfl ?_
  refine g_bipush (a := 6) (by decide +kernel) (by decide) ?_
  refine g_iload_n (i := 1) (by decide +kernel) rfl ?_
  refine g_cVV (st := _) (c_Md_laysSlot (s := 6) (t := t) hn (hP0.x (by decide) _) (fun i hi _ => by omega) ht) k_Md_laysSlot l_Md_372 (by decide +kernel) (by omega) rfl rfl rfl rfl (Nat.le_of_ble_eq_true rfl) (by decide) ⟨by decide, by decide⟩ ?_
  rintro υ ⟨hr6, h6⟩
  have hP1 := hP0.slot (by decide) hr6
  refine g_aload_n (i := 0) (by decide +kernel) rfl ?_
  refine g_bipush (a := 100) (by decide +kernel) (by decide) ?_
  refine g_puti f_Md_409 (by decide +kernel) (by omega) rfl rfl ?_
  refine g_iconst (a := 0) (by decide +kernel) ?_
  refine g_istore_n (i := 2) (L' := [(0, _), (1, _), (2, _)]) (by decide +kernel) rfl rfl ?_
  refine w_Md_laysShares hn hL ht (zlvs S + 1) 0 _ _ [] rfl (fun a ha => by rw [zs_other (by omega)]; exact hr6.1 a (by omega)) (fun j hj => by rw [zs_ne (fun y => hj y.2), hr6.1 189 (by omega)]) (hP1.moved (fun a ha => zs_other (by omega))) (h6.moved (fun a ha => zs_other (by omega))) (zs_eq _ _ _ _) (fun j hj => by omega) (Or.inl rfl) (by omega) (by omega)
theorem c_Md_share {G : zG} {n : Nat} {σ : zSt} {S : zSt} (hn : 220 ≤ n) (hM : zMz S) (hS : zMc σ S) {c t : Int} (z1 : zr c) (z2 : zr t) : Gm G y_Md_share m_Md_share 19 0 0 [vr G 189, vi c, vi t] n SH σ (zI n SH (fun a σ' => zRM σ σ' a (if zwa (S 0 0) t c ≠ 0 then zwa (S 0 0) t c else if S 1 c.toNat ≠ 0 then 5 else 0) (zv S t 7 c.toNat))) := by
  refine g_enter (L := [(0, _), (1, _), (2, _)]) (by decide) rfl rfl rfl (Nat.le_of_ble_eq_true rfl) (fun X => ?_)
  have e0 := hS.n
  have e8 := hS.p
  have hN := hS.N
  have hz : zN S = (S 0 0).toNat := rfl
  refine g_aload_n (i := 0) (by decide +kernel) rfl ?_
  refine g_iload_n (i := 1) (by decide +kernel) rfl ?_
  refine g_iload_n (i := 2) (by decide +kernel) rfl ?_
  refine g_cVI (st := _) (c_Md_asks (c := c) (t := t) hn hM hS z1 z2) k_Md_asks l_Md_390 (by decide +kernel) (by omega) rfl rfl rfl rfl (Nat.le_of_ble_eq_true rfl) (by decide) ⟨by decide, by decide⟩ ?_
  rintro a9 τ ⟨ea9, hf, hs, hA⟩
  subst ea9
  refine g_if_ne (off := 5) (tgt := 11) (by decide +kernel) (by decide) zbr (fun h6 => ?_) (fun h6 => ?_)
  · have h6 := zb1.mp h6
    have h6x := h6
    obtain ⟨hP, q6⟩ := hA h6
    have zz := zwa_0.mp h6x
    obtain ⟨k, rfl⟩ := Int.eq_ofNat_of_zero_le zz.2.1
    have kN : k < zN S := by omega
    have k6 := zS6 q6 kN
    have st6 := zv_st (t := t) hM kN
    have s1 : τ 189 2 = 0 := by rw [hs]; exact h6x
    have hT := hP.2.1
    have kk := hT.kd kN
    have kr := hT.rg (show k < 12 by omega)
    refine g_aload_n (i := 0) (by decide +kernel) rfl ?_
    refine g_iload_n (i := 1) (by decide +kernel) rfl ?_
    refine g_cVI (st := _) (c_Md_kind (k := k) hn (by omega)) k_Md_kind l_Md_182 (by decide +kernel) (by omega) rfl rfl rfl rfl (Nat.le_of_ble_eq_true rfl) (by decide) ⟨by decide, by decide⟩ ?_
    rintro a9 σ9 ⟨ea9, hσ9⟩
    obtain rfl := hσ9.symm
    subst ea9
    refine g_if_eq (off := 9) (tgt := 25) (by decide +kernel) (by decide) ⟨by omega, by omega⟩ (fun h16 => ?_) (fun h16 => ?_)
    · refine g_aload_n (i := 0) (by decide +kernel) rfl ?_
      refine g_cVV (st := _) (c_Md_laysStanding hn hT) k_Md_laysStanding l_Md_412 (by decide +kernel) (by omega) rfl rfl rfl rfl (Nat.le_of_ble_eq_true rfl) (by decide) ⟨by decide, by decide⟩ ?_
      rintro υ ⟨l1, l2, l3, l4⟩
      have hL : zLs υ S := ⟨hP.moved (fun a ha => l1 a (by omega) (by omega)), l3, l4⟩
      have f1 : zMF σ υ := hf.tr ⟨fun a ha => l1 a (by omega) (by omega), fun j hj => l2 j (by omega)⟩
      refine g_aload_n (i := 0) (by decide +kernel) rfl ?_
      refine g_iload_n (i := 2) (by decide +kernel) rfl ?_
      refine g_cVV (st := _) (c_Md_laysShares (t := t) hn hL zz.1) k_Md_laysShares l_Md_415 (by decide +kernel) (by omega) rfl rfl rfl rfl (Nat.le_of_ble_eq_true rfl) (by decide) ⟨by decide, by decide⟩ ?_
      rintro ω ⟨g1, g2, g3, g4, g5, g6⟩
      have f2 : zMF σ ω := f1.tr ⟨fun a ha => g1 a (by omega), fun j hj => g2 j (by omega)⟩
      refine g_aload_n (i := 0) (by decide +kernel) rfl ?_
      refine g_getr f_Md_109 (by decide +kernel) (by omega) rfl rfl ?_
      refine g_iload_n (i := 1) (by decide +kernel) rfl ?_
      refine g_iald (j := k) (by decide +kernel) (by omega) rfl (by omega) (by omega) (by decide) ?_
      refine g_retI (by decide +kernel) rfl (Or.inl rfl) ⟨by decide, by decide⟩ ?_
      exact zRM.ok f2 (by rw [if_neg (fun q => q h6x), Int.toNat_natCast, if_neg (by omega)]) (by rw [g2 2 (by decide), l2 2 (by decide)]; exact s1) (by rw [Int.toNat_natCast]; exact g5 k kN (by omega))
    · refine g_aload_n (i := 0) (by decide +kernel) rfl ?_
      refine g_iconst (a := 5) (by decide +kernel) ?_
      refine g_cVI (st := _) (c_Md_refuse hn) k_Md_refuse l_Md_295 (by decide +kernel) (by omega) rfl rfl rfl rfl (Nat.le_of_ble_eq_true rfl) (by decide) ⟨by decide, by decide⟩ ?_
      rintro a9 σ9 ⟨ea9, hσ9⟩
      obtain rfl := ea9.symm
      subst hσ9
      refine g_retI (by decide +kernel) rfl (Or.inl rfl) ⟨by decide, by decide⟩ ?_
      exact zRM.ref hf (by rw [if_neg (fun q => q h6x), Int.toNat_natCast, if_pos (by omega)]) (by decide)
  · have h6 := zb0.mp h6
    refine g_iconst (a := -1) (by decide +kernel) ?_
    refine g_retI (by decide +kernel) rfl (Or.inl rfl) ⟨by decide, by decide⟩ ?_
    refine zRM.no hf ?_ ?_
    · rw [if_pos h6]; exact h6
    · rw [if_pos h6]; exact hs
theorem c_Md_asksLight {G : zG} {n : Nat} {σ : zSt} {S : zSt} (hn : 220 ≤ n) (hM : zMz S) (hS : zMc σ S) {t : Int} (z1 : zr t) : Gm G y_Md_asksLight m_Md_asksLight 18 0 0 [vr G 189, vi t] n SH σ (zI n SH (fun a σ' => a = (if 0 ≤ t ∧ t ≤ 1999 then 1 else 0) ∧ zMF σ σ' ∧ σ' 189 2 = (if 0 ≤ t ∧ t ≤ 1999 then 0 else 1) ∧ ((0 ≤ t ∧ t ≤ 1999) → zLs σ' S ∧ (∀ k, k < zN S → S 1 k = 0 → σ' 209 k = zv S t 7 k) ∧ σ' 189 36 = zv S t 0 1))) := by
  refine g_enter (L := [(0, _), (1, _)]) (by decide) rfl rfl rfl (Nat.le_of_ble_eq_true rfl) (fun X => ?_)
  have e0 := hS.n
  have e8 := hS.p
  have hN := hS.N
  have hz : zN S = (S 0 0).toNat := rfl
  obtain ⟨z1a, z1b⟩ := id z1
  refine g_aload_n (i := 0) (by decide +kernel) rfl ?_
  refine g_iconst (a := 0) (by decide +kernel) ?_
  refine g_puti f_Md_142 (by decide +kernel) (by omega) rfl rfl ?_
  obtain ⟨τ, eτ⟩ : ∃ τ, τ = zs σ 189 3 0 := ⟨_, rfl⟩
  rw [← eτ]
  have f0 : zMF σ τ := by rw [eτ]; exact (zMF.rf σ).put (by decide)
  have J22 : ∀ v : Int, v = (if 0 ≤ t ∧ t ≤ 1999 then 0 else 1) → (v = 0 ∨ v = 1) → Go G X m_Md_asksLight (18, 0, 0, 0, 0) n SH τ 22 [(0, vr G 189), (1, vi t)] [vi v, vr G 189] (zI n SH (fun a σ' => a = (if 0 ≤ t ∧ t ≤ 1999 then 1 else 0) ∧ zMF σ σ' ∧ σ' 189 2 = (if 0 ≤ t ∧ t ≤ 1999 then 0 else 1) ∧ ((0 ≤ t ∧ t ≤ 1999) → zLs σ' S ∧ (∀ k, k < zN S → S 1 k = 0 → σ' 209 k = zv S t 7 k) ∧ σ' 189 36 = zv S t 0 1))) := by
    intro v ev v01
    obtain ⟨υ, eυ⟩ : ∃ υ, υ = zs τ 189 2 v := ⟨_, rfl⟩
    have f1 : zMF σ υ := by rw [eυ]; exact f0.put (by decide)
    have s1 : υ 189 2 = v := by rw [eυ, zs_eq]
    have hU : zMc υ S := hS.moved (f1.1 190 (by decide))
    refine g_puti f_Md_145 (by decide +kernel) (by omega) rfl rfl ?_
    rw [← eυ]
    refine g_aload_n (i := 0) (by decide +kernel) rfl ?_
    refine g_geti f_Md_145 (by decide +kernel) (by omega) rfl rfl ?_
    rw [s1]
    refine g_if_le (off := 5) (tgt := 34) (by decide +kernel) (by decide) ⟨by omega, by omega⟩ (fun h29 => ?_) (fun h29 => ?_)
    · have v0 : 0 ≤ t ∧ t ≤ 1999 := by
        by_cases z : 0 ≤ t ∧ t ≤ 1999
        · exact z
        · rw [if_neg z] at ev; omega
      refine g_aload_n (i := 0) (by decide +kernel) rfl ?_
      refine g_cVV (st := _) (c_Md_laysPresses hn hM hU) k_Md_laysPresses l_Md_375 (by decide +kernel) (by omega) rfl rfl rfl rfl (Nat.le_of_ble_eq_true rfl) (by decide) ⟨by decide, by decide⟩ ?_
      rintro ω ⟨hf, hP⟩
      have f2 := f1.of (fun a ha => hf a (by omega))
      refine g_aload_n (i := 0) (by decide +kernel) rfl ?_
      refine g_cVV (st := _) (c_Md_laysStanding hn hP.2.1) k_Md_laysStanding l_Md_412 (by decide +kernel) (by omega) rfl rfl rfl rfl (Nat.le_of_ble_eq_true rfl) (by decide) ⟨by decide, by decide⟩ ?_
      rintro ρ ⟨l1, l2, l3, l4⟩
      have hL : zLs ρ S := ⟨hP.moved (fun a ha => l1 a (by omega) (by omega)), l3, l4⟩
      have f3 : zMF σ ρ := f2.tr ⟨fun a ha => l1 a (by omega) (by omega), fun j hj => l2 j (by omega)⟩
      refine g_aload_n (i := 0) (by decide +kernel) rfl ?_
      refine g_iload_n (i := 1) (by decide +kernel) rfl ?_
      refine g_cVV (st := _) (c_Md_laysShares (t := t) hn hL v0) k_Md_laysShares l_Md_415 (by decide +kernel) (by omega) rfl rfl rfl rfl (Nat.le_of_ble_eq_true rfl) (by decide) ⟨by decide, by decide⟩ ?_
      rintro φ ⟨g1, g2, g3, g4, g5, g6⟩
      have f4 : zMF σ φ := f3.tr ⟨fun a ha => g1 a (by omega), fun j hj => g2 j (by omega)⟩
      refine g_iconst (a := 1) (by decide +kernel) ?_
      refine g_retI (by decide +kernel) rfl (Or.inr ⟨rfl, by omega⟩) ⟨by decide, by decide⟩ ?_
      exact ⟨by rw [if_pos v0], f4, by rw [g2 2 (by decide), l2 2 (by decide), hf 189 (by omega), s1]; exact ev, fun _ => ⟨g3, g5, g6⟩⟩
    · have v0 : ¬ (0 ≤ t ∧ t ≤ 1999) := fun z => by rw [if_pos z] at ev; omega
      refine g_iconst (a := 0) (by decide +kernel) ?_
      refine g_retI (by decide +kernel) rfl (Or.inr ⟨rfl, by omega⟩) ⟨by decide, by decide⟩ ?_
      exact ⟨by rw [if_neg v0], f1, by rw [s1]; exact ev, fun q => absurd q v0⟩
  refine g_aload_n (i := 0) (by decide +kernel) rfl ?_
  refine g_iload_n (i := 1) (by decide +kernel) rfl ?_
  refine g_iconst (a := 0) (by decide +kernel) ?_
  refine g_sipush (a := 1999) (by decide +kernel) (by decide) ?_
  refine g_cSI (st := _) (c_Md_isIn ⟨by omega, by omega⟩ ⟨by omega, by omega⟩ ⟨by omega, by omega⟩) k_Md_isIn l_Md_152 (by decide +kernel) rfl rfl (Nat.le_of_ble_eq_true rfl) (by decide) ⟨by decide, by decide⟩ ?_
  rintro a9 σ9 ⟨ea9, hσ9⟩
  obtain rfl := hσ9.symm
  subst ea9
  refine g_if_eq (off := 7) (tgt := 21) (by decide +kernel) (by decide) zbr (fun h14 => ?_) (fun h14 => ?_)
  · have h14 := zb0.mp h14
    refine g_iconst (a := 1) (by decide +kernel) ?_
    first
      | exact J22 0 (by rw [if_pos (by omega)]) (by decide)
      | exact J22 1 (by rw [if_neg (by omega)]) (by decide)
  · have h14 := zb1.mp h14
    refine g_iconst (a := 0) (by decide +kernel) ?_
    refine g_goto (off := 4) (tgt := 22) (by decide +kernel) (by decide) ?_
    first
      | exact J22 0 (by rw [if_pos (by omega)]) (by decide)
      | exact J22 1 (by rw [if_neg (by omega)]) (by decide)
theorem c_Md_dark {G : zG} {n : Nat} {σ : zSt} {S : zSt} (hn : 220 ≤ n) (hM : zMz S) (hS : zMc σ S) {t : Int} (z1 : zr t) : Gm G y_Md_dark m_Md_dark 19 0 0 [vr G 189, vi t] n SH σ (zI n SH (fun a σ' => zRM σ σ' a (if 0 ≤ t ∧ t ≤ 1999 then 0 else 1) (zv S t 0 1))) := by
  refine g_enter (L := [(0, _), (1, _)]) (by decide) rfl rfl rfl (Nat.le_of_ble_eq_true rfl) (fun X => ?_)
  have e0 := hS.n
  have e8 := hS.p
  have hN := hS.N
  have hz : zN S = (S 0 0).toNat := rfl
  refine g_aload_n (i := 0) (by decide +kernel) rfl ?_
  refine g_iload_n (i := 1) (by decide +kernel) rfl ?_
  refine g_cVI (st := _) (c_Md_asksLight (t := t) hn hM hS z1) k_Md_asksLight l_Md_418 (by decide +kernel) (by omega) rfl rfl rfl rfl (Nat.le_of_ble_eq_true rfl) (by decide) ⟨by decide, by decide⟩ ?_
  rintro a9 τ ⟨ea9, hf, hs, hA⟩
  subst ea9
  refine g_if_eq (off := 10) (tgt := 15) (by decide +kernel) (by decide) zbr (fun h5 => ?_) (fun h5 => ?_)
  · have h5 := zb0.mp h5
    refine g_iconst (a := -1) (by decide +kernel) ?_
    refine g_retI (by decide +kernel) rfl (Or.inl rfl) ⟨by decide, by decide⟩ ?_
    first
      | (have hz : ¬ (0 ≤ t ∧ t ≤ 1999) := h5
         exact zRM.no hf (by rw [if_neg hz]; decide) hs)
      | (have hz : 0 ≤ t ∧ t ≤ 1999 := h5
         exact zRM.ok hf (if_pos hz) (by rw [hs, if_pos hz]) (hA hz).2.2)
  · have h5 := zb1.mp h5
    refine g_aload_n (i := 0) (by decide +kernel) rfl ?_
    refine g_geti f_Md_409 (by decide +kernel) (by omega) rfl rfl ?_
    refine g_goto (off := 4) (tgt := 16) (by decide +kernel) (by decide) ?_
    refine g_retI (by decide +kernel) rfl (Or.inl rfl) ⟨by decide, by decide⟩ ?_
    first
      | (have hz : ¬ (0 ≤ t ∧ t ≤ 1999) := h5
         exact zRM.no hf (by rw [if_neg hz]; decide) hs)
      | (have hz : 0 ≤ t ∧ t ≤ 1999 := h5
         exact zRM.ok hf (if_pos hz) (by rw [hs, if_pos hz]) (hA hz).2.2)
theorem w_Md_top {G : zG} {X : zX} {n : Nat} {σ : zSt} {S : zSt} (hn : 220 ≤ n) (hM : zMz S) (hS : zMc σ S) {t : Int} {τ : zSt} (hz1 : 0 ≤ t ∧ t ≤ 1999) (hf : zMF σ τ) (hs : τ 189 2 = 0) (hL : zLs τ S) (h9 : ∀ k, k < zN S → S 1 k = 0 → τ 209 k = zv S t 7 k)  : ∀ (m : Nat) (i : Nat) (x2 x3 g : Int), x3 = (i : Int) → (g, x2) = ztp (zv S t 7) (τ 208) i → (x2 = -1 ∧ g = 0 ∨ ∃ k : Nat, x2 = k ∧ k < zN S ∧ S 1 k = 0 ∧ g = zv S t 7 k) → i ≤ zlvs S → zlvs S < i + m → Go G X m_Md_top (19, 0, 0, 0, 0) n SH τ 14 [(0, vr G 189), (1, vi t), (2, vi x2), (3, vi x3)] [] (zI n SH (fun a σ' => zRM σ σ' a (if 0 ≤ t ∧ t ≤ 1999 then (if ztop S t = -1 then 8 else 0) else 1) (ztop S t))) := by
  intro m
  induction m with
  | zero => intro i x2 x3 g e3 eg hx hi hm; exact absurd hm (by omega)
  | succ m ih =>
    intro i x2 x3 g e3 eg hx hi hm
    obtain ⟨hP, hL1, hL2⟩ := id hL
    have e0 := hS.n
    have e8 := hS.p
    have hN := hS.N
    have hz : zN S = (S 0 0).toNat := rfl
    subst e3
    have lz : zlvs S ≤ zN S := zcnt_le _ _
    have x12 : -1 ≤ x2 ∧ x2 < 12 := by rcases hx with hx | ⟨y, h1, h2, h3, h4⟩ <;> omega
    have gx : g = (ztp (zv S t 7) (τ 208) i).1 := by rw [← eg]
    have xx : x2 = (ztp (zv S t 7) (τ 208) i).2 := by rw [← eg]
    have fin : i = zlvs S → x2 = ztop S t := fun e => ztop_eq ⟨τ 208, hL2, by rw [← e]; exact xx⟩
    have J47 : ∀ v : Int, v = g → i < zlvs S → Go G X m_Md_top (19, 0, 0, 0, 0) n SH τ 47 [(0, vr G 189), (1, vi t), (2, vi x2), (3, vi (i : Int))] [vi v, vi (zv S t 7 (τ 208 i).toNat)] (zI n SH (fun a σ' => zRM σ σ' a (if 0 ≤ t ∧ t ≤ 1999 then (if ztop S t = -1 then 8 else 0) else 1) (ztop S t))) := by
      intro v ev hil
      have q := hL2 i hil
      obtain ⟨k, ek⟩ := Int.eq_ofNat_of_zero_le q.1
      have ez := ztp_s (zv S t 7) (τ 208) i
      rw [← gx] at ez
      rw [ek, Int.toNat_natCast] at q ez
      have s7 := zv_s7 (t := t) hM hL2 q.2.1 q.2.2.1
      have gb : 0 ≤ g ∧ g ≤ 100 := by
        rcases hx with hx | ⟨y, h1, h2, h3, h4⟩
        · omega
        · have := zv_s7 (t := t) hM hL2 h2 h3; omega
      rw [show (τ 208 i).toNat = k by omega]
      subst ev
      refine g_icmp_le (off := 10) (tgt := 57) (by decide +kernel) (by decide) ⟨by omega, by omega⟩ ⟨by omega, by omega⟩ (fun h47 => ?_) (fun h47 => ?_)
      · refine g_iinc (i := 3) (b := 1) (L' := [(0, _), (1, _), (2, _), (3, _)]) (by decide +kernel) rfl rfl rfl ?_
        refine g_goto (off := -46) (tgt := 14) (by decide +kernel) (by decide) ?_
        first
          | (have hz : zv S t 7 k ≤ v := h47
             exact ih (i + 1) _ _ v (by push_cast; rfl) (by rw [ez, if_neg (by omega), eg]) hx (by omega) (by omega))
          | (have hz : v < zv S t 7 k := h47
             exact ih (i + 1) _ _ (zv S t 7 k) (by push_cast; rfl) (by rw [ez, if_pos (by omega)]) (Or.inr ⟨k, rfl, q.2.1, q.2.2.1, rfl⟩) (by omega) (by omega))
      · refine g_aload_n (i := 0) (by decide +kernel) rfl ?_
        refine g_getr f_Md_106 (by decide +kernel) (by omega) rfl rfl ?_
        refine g_iload_n (i := 3) (by decide +kernel) rfl ?_
        refine g_iald (j := i) (by decide +kernel) (by omega) rfl (by omega) (by omega) (by decide) ?_
        rw [ek]
        refine g_istore_n (i := 2) (L' := [(0, _), (1, _), (2, _), (3, _)]) (by decide +kernel) rfl rfl ?_
        refine g_iinc (i := 3) (b := 1) (L' := [(0, _), (1, _), (2, _), (3, _)]) (by decide +kernel) rfl rfl rfl ?_
        refine g_goto (off := -46) (tgt := 14) (by decide +kernel) (by decide) ?_
        first
          | (have hz : zv S t 7 k ≤ v := h47
             exact ih (i + 1) _ _ v (by push_cast; rfl) (by rw [ez, if_neg (by omega), eg]) hx (by omega) (by omega))
          | (have hz : v < zv S t 7 k := h47
             exact ih (i + 1) _ _ (zv S t 7 k) (by push_cast; rfl) (by rw [ez, if_pos (by omega)]) (Or.inr ⟨k, rfl, q.2.1, q.2.2.1, rfl⟩) (by omega) (by omega))
    refine g_iload_n (i := 3) (by decide +kernel) rfl ?_
    refine g_aload_n (i := 0) (by decide +kernel) rfl ?_
    refine g_geti f_Md_403 (by decide +kernel) (by omega) rfl rfl ?_
    refine g_icmp_ge (off := 44) (tgt := 63) (by decide +kernel) (by decide) ⟨by omega, by omega⟩ ⟨by omega, by omega⟩ (fun h19 => ?_) (fun h19 => ?_)
    · refine g_iload_n (i := 2) (by decide +kernel) rfl ?_
      refine g_if_ge (off := 12) (tgt := 76) (by decide +kernel) (by decide) ⟨by rcases hx with hx | ⟨y, h1, h2, h3, h4⟩ <;> omega, by rcases hx with hx | ⟨y, h1, h2, h3, h4⟩ <;> omega⟩ (fun h64 => ?_) (fun h64 => ?_)
      · refine g_iload_n (i := 2) (by decide +kernel) rfl ?_
        refine g_retI (by decide +kernel) rfl (Or.inl rfl) ⟨by decide, by decide⟩ ?_
        have fx := fin (by omega)
        first
          | (have hz : x2 < 0 := h64
             exact zRM.ref hf (by rw [if_pos hz1, if_pos (by rcases hx with hx | ⟨y, h1, h2, h3, h4⟩ <;> omega)]) (by decide))
          | (have hz : 0 ≤ x2 := h64
             exact zRM.ok hf (by rw [if_pos hz1, if_neg (by omega)]) hs fx)
      · refine g_aload_n (i := 0) (by decide +kernel) rfl ?_
        refine g_bipush (a := 8) (by decide +kernel) (by decide) ?_
        refine g_cVI (st := _) (c_Md_refuse hn) k_Md_refuse l_Md_295 (by decide +kernel) (by omega) rfl rfl rfl rfl (Nat.le_of_ble_eq_true rfl) (by decide) ⟨by decide, by decide⟩ ?_
        rintro a9 σ9 ⟨ea9, hσ9⟩
        obtain rfl := ea9.symm
        subst hσ9
        refine g_goto (off := 4) (tgt := 77) (by decide +kernel) (by decide) ?_
        refine g_retI (by decide +kernel) rfl (Or.inl rfl) ⟨by decide, by decide⟩ ?_
        have fx := fin (by omega)
        first
          | (have hz : x2 < 0 := h64
             exact zRM.ref hf (by rw [if_pos hz1, if_pos (by rcases hx with hx | ⟨y, h1, h2, h3, h4⟩ <;> omega)]) (by decide))
          | (have hz : 0 ≤ x2 := h64
             exact zRM.ok hf (by rw [if_pos hz1, if_neg (by omega)]) hs fx)
    · refine g_aload_n (i := 0) (by decide +kernel) rfl ?_
      refine g_getr f_Md_109 (by decide +kernel) (by omega) rfl rfl ?_
      refine g_aload_n (i := 0) (by decide +kernel) rfl ?_
      refine g_getr f_Md_106 (by decide +kernel) (by omega) rfl rfl ?_
      refine g_iload_n (i := 3) (by decide +kernel) rfl ?_
      refine g_iald (j := i) (by decide +kernel) (by omega) rfl (by omega) (by omega) (by decide) ?_
      refine g_iald (j := (τ 208 i).toNat) (by decide +kernel) (by omega) rfl (by have := hL2 i (by omega); omega) (by have := hL2 i (by omega); omega) (by decide) ?_
      rw [h9 _ (hL2 i (by omega)).2.1 (hL2 i (by omega)).2.2.1]
      refine g_iload_n (i := 2) (by decide +kernel) rfl ?_
      refine g_if_ge (off := 7) (tgt := 41) (by decide +kernel) (by decide) ⟨by rcases hx with hx | ⟨y, h1, h2, h3, h4⟩ <;> omega, by rcases hx with hx | ⟨y, h1, h2, h3, h4⟩ <;> omega⟩ (fun h34 => ?_) (fun h34 => ?_)
      · refine g_aload_n (i := 0) (by decide +kernel) rfl ?_
        refine g_getr f_Md_109 (by decide +kernel) (by omega) rfl rfl ?_
        refine g_iload_n (i := 2) (by decide +kernel) rfl ?_
        refine g_iald (j := x2.toNat) (by decide +kernel) (by omega) rfl (by omega) (by omega) (by decide) ?_
        first
          | (have hz : x2 < 0 := h34
             exact J47 0 (by rcases hx with hx | ⟨y, h1, h2, h3, h4⟩ <;> omega) (by omega))
          | (have hz : 0 ≤ x2 := h34
             refine J47 _ ?_ (by omega)
             rcases hx with hx | ⟨y, h1, h2, h3, h4⟩
             · omega
             · rw [show x2.toNat = y by omega, h9 y h2 h3]; exact h4.symm)
      · refine g_iconst (a := 0) (by decide +kernel) ?_
        refine g_goto (off := 9) (tgt := 47) (by decide +kernel) (by decide) ?_
        first
          | (have hz : x2 < 0 := h34
             exact J47 0 (by rcases hx with hx | ⟨y, h1, h2, h3, h4⟩ <;> omega) (by omega))
          | (have hz : 0 ≤ x2 := h34
             refine J47 _ ?_ (by omega)
             rcases hx with hx | ⟨y, h1, h2, h3, h4⟩
             · omega
             · rw [show x2.toNat = y by omega, h9 y h2 h3]; exact h4.symm)
theorem c_Md_top {G : zG} {n : Nat} {σ : zSt} {S : zSt} (hn : 220 ≤ n) (hM : zMz S) (hS : zMc σ S) {t : Int} (z1 : zr t) : Gm G y_Md_top m_Md_top 19 0 0 [vr G 189, vi t] n SH σ (zI n SH (fun a σ' => zRM σ σ' a (if 0 ≤ t ∧ t ≤ 1999 then (if ztop S t = -1 then 8 else 0) else 1) (ztop S t))) := by
  refine g_enter (L := [(0, _), (1, _)]) (by decide) rfl rfl rfl (Nat.le_of_ble_eq_true rfl) (fun X => ?_)
  have e0 := hS.n
  have e8 := hS.p
  have hN := hS.N
  have hz : zN S = (S 0 0).toNat := rfl
  refine g_aload_n (i := 0) (by decide +kernel) rfl ?_
  refine g_iload_n (i := 1) (by decide +kernel) rfl ?_
  refine g_cVI (st := _) (c_Md_asksLight (t := t) hn hM hS z1) k_Md_asksLight l_Md_418 (by decide +kernel) (by omega) rfl rfl rfl rfl (Nat.le_of_ble_eq_true rfl) (by decide) ⟨by decide, by decide⟩ ?_
  rintro a9 τ ⟨ea9, hf, hs, hA⟩
  subst ea9
  refine g_if_ne (off := 5) (tgt := 10) (by decide +kernel) (by decide) zbr (fun h5 => ?_) (fun h5 => ?_)
  · have h5 := zb1.mp h5
    refine g_iconst (a := -1) (by decide +kernel) ?_
    refine g_istore_n (i := 2) (L' := [(0, _), (1, _), (2, _)]) (by decide +kernel) rfl rfl ?_
    refine g_iconst (a := 0) (by decide +kernel) ?_
    refine g_istore_n (i := 3) (L' := [(0, _), (1, _), (2, _), (3, _)]) (by decide +kernel) rfl rfl ?_
    exact w_Md_top hn hM hS h5 hf (by rw [hs, if_pos h5]) (hA h5).1 (hA h5).2.1 (zlvs S + 1) 0 _ _ 0 rfl rfl (Or.inl ⟨rfl, rfl⟩) (by omega) (by omega)
  · have h5 := zb0.mp h5
    refine g_iconst (a := -1) (by decide +kernel) ?_
    refine g_retI (by decide +kernel) rfl (Or.inl rfl) ⟨by decide, by decide⟩ ?_
    exact zRM.no hf (by rw [if_neg h5]; decide) (by rw [if_neg h5] at hs ⊢; exact hs)
