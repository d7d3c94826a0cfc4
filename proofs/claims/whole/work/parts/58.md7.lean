theorem c_Md_least {G : zG} {n : Nat} {σ : zSt} {a b : Int} (z1 : zrl a) (z2 : zrl b) : Gm G y_Md_least m_Md_least 0 0 0 [vl a, vl b] n SH σ (zL n SH (fun x σ' => x = min a b ∧ σ' = σ)) := by
  refine g_enter (L := [(0, _), (2, _)]) (by decide) rfl rfl rfl (Nat.le_of_ble_eq_true rfl) (fun X => ?_)
  refine g_lload_n (i := 0) (by decide +kernel) rfl ?_
  refine g_lload_n (i := 2) (by decide +kernel) rfl ?_
  refine g_lcmp (by decide +kernel) z1 z2 ?_
  refine g_if_ge (off := 7) (tgt := 10) (by decide +kernel) (by decide) zcmp_r (fun h3 => ?_) (fun h3 => ?_)
  · have h3 := zcmp_ge.mp h3
    refine g_lload_n (i := 2) (by decide +kernel) rfl ?_
    refine g_retL (by decide +kernel) rfl ⟨by decide, by decide⟩ ?_
    exact ⟨by omega, rfl⟩
  · have h3 := zcmp_lt.mp h3
    refine g_lload_n (i := 0) (by decide +kernel) rfl ?_
    refine g_goto (off := 4) (tgt := 11) (by decide +kernel) (by decide) ?_
    refine g_retL (by decide +kernel) rfl ⟨by decide, by decide⟩ ?_
    exact ⟨by omega, rfl⟩
theorem c_Md_strengthBy {G : zG} {n : Nat} {σ : zSt} {S : zSt} {s k : Nat} {t : Int} (hn : 220 ≤ n) (hM : zMz S) (hS : zMc σ S) (hA : σ 192 k = (zsa S).2 k) (hk : k < zN S) (hr : zv S t 1 k = 2 ∨ zv S t 1 k = 3) (h6 : S 2 k ≠ -1 → σ 206 (12 * s + (S 2 k).toNat) = zv S t 6 (S 2 k).toNat) (hs8 : s < 8)  : Gm G y_Md_strengthBy m_Md_strengthBy 1 0 0 [vr G 189, vi (s : Int), vi (k : Int), vl (zv S t 5 k)] n SH σ (zI n SH (fun a σ' => a = zv S t 6 k ∧ σ' = σ)) := by
  refine g_enter (L := [(0, _), (1, _), (2, _), (3, _)]) (by decide) rfl rfl rfl (Nat.le_of_ble_eq_true rfl) (fun X => ?_)
  have e0 := hS.n
  have e8 := hS.p
  have hN := hS.N
  have hz : zN S = (S 0 0).toNat := rfl
  obtain ⟨d, r, hv⟩ := hM.1.1
  have R := zv_run hM hk hr
  have bd := zLay_bound hv hM.1.lay hk
  have tk := hv.2.1 k hk
  have ka := hS.ar hk
  have hk12 : k < 12 := by omega
  have m7 := hS.mk hk (show 7 < 9 by decide)
  have m8 := hS.mk hk (show 8 < 9 by decide)
  have r7 := hS.mr hk12 (show 7 < 9 by decide)
  have r8 := hS.mr hk12 (show 8 < 9 by decide)
  have E6 := (zv_eqs hM t hk).2.2.2.2.2
  rw [if_pos hr] at E6
  have d7 : 0 ≤ (zv S t 5 k + 1) * 100 / (S 7 (9 * k + 7) + 1) ∧ (zv S t 5 k + 1) * 100 / (S 7 (9 * k + 7) + 1) ≤ 100000000000 := ⟨Int.ediv_nonneg (by omega) (by omega), by have := Int.ediv_le_self (S 7 (9 * k + 7) + 1) (show 0 ≤ (zv S t 5 k + 1) * 100 by omega); omega⟩
  have d8 : 0 ≤ ((zsa S).2 k - zv S t 5 k) * 100 / (S 7 (9 * k + 8) + 1) ∧ ((zsa S).2 k - zv S t 5 k) * 100 / (S 7 (9 * k + 8) + 1) ≤ 100000000000 := ⟨Int.ediv_nonneg (by omega) (by omega), by have := Int.ediv_le_self (S 7 (9 * k + 8) + 1) (show 0 ≤ ((zsa S).2 k - zv S t 5 k) * 100 by omega); omega⟩
  obtain ⟨ow, how⟩ : ∃ ow, ow = min 100 (min ((zv S t 5 k + 1) * 100 / (S 7 (9 * k + 7) + 1)) (((zsa S).2 k - zv S t 5 k) * 100 / (S 7 (9 * k + 8) + 1))) := ⟨_, rfl⟩
  have owb : 0 ≤ ow ∧ ow ≤ 100 := by omega
  rw [← how] at E6
  have J83 : ∀ g : Int, (0 ≤ g ∧ g ≤ 100) → zv S t 6 k = ow * g / 100 → Go G X m_Md_strengthBy (1, 0, 0, 0, 0) n SH σ 83 [(0, vr G 189), (1, vi (s : Int)), (2, vi (k : Int)), (3, vl (zv S t 5 k)), (5, vl ow), (7, vi (S 2 k))] [vi g, vl ow] (zI n SH (fun a σ' => a = zv S t 6 k ∧ σ' = σ)) := by
    intro g gb eg
    have p0 : 0 ≤ ow * g := Int.mul_nonneg owb.1 gb.1
    have p1 : ow * g ≤ 100 * 100 := Int.mul_le_mul owb.2 gb.2 gb.1 (by decide)
    refine g_i2l (by decide +kernel) ⟨by omega, by omega⟩ ?_
    refine g_lmul (by decide +kernel) ?_
    refine g_ldc2 (x := 359) (a := 100) (by decide +kernel) c_Md_359 (by decide) ?_
    refine g_ldiv (by decide +kernel) ⟨by omega, by omega, by omega, by omega⟩ ?_
    refine g_l2i (by decide +kernel) ?_
    refine g_retI (by decide +kernel) rfl (Or.inl rfl) ⟨by decide, by decide⟩ ?_
    exact ⟨eg.symm, rfl⟩
  refine g_ldc2 (x := 359) (a := 100) (by decide +kernel) c_Md_359 (by decide) ?_
  refine g_lload_n (i := 3) (by decide +kernel) rfl ?_
  refine g_lconst (c := 1) (a := 1) (by decide +kernel) (by decide) ?_
  refine g_ladd (by decide +kernel) ?_
  refine g_ldc2 (x := 359) (a := 100) (by decide +kernel) c_Md_359 (by decide) ?_
  refine g_lmul (by decide +kernel) ?_
  refine g_aload_n (i := 0) (by decide +kernel) rfl ?_
  refine g_iload_n (i := 2) (by decide +kernel) rfl ?_
  refine g_bipush (a := 7) (by decide +kernel) (by decide) ?_
  refine g_cVI (st := _) (c_Md_marked (k := k) (w := 7) hn (by omega) (by omega)) k_Md_marked l_Md_192 (by decide +kernel) (by omega) rfl rfl rfl rfl (Nat.le_of_ble_eq_true rfl) (by decide) ⟨by decide, by decide⟩ ?_
  rintro a9 σ9 ⟨ea9, hσ9⟩
  obtain rfl := hσ9.symm
  rw [hS.mk hk (show 7 < 9 by decide)] at ea9
  subst ea9
  refine g_iconst (a := 1) (by decide +kernel) ?_
  refine g_iadd (by decide +kernel) ?_
  refine g_i2l (by decide +kernel) ⟨by omega, by omega⟩ ?_
  refine g_ldiv (by decide +kernel) ⟨by omega, by omega, by omega, by omega⟩ ?_
  refine g_aload_n (i := 0) (by decide +kernel) rfl ?_
  refine g_getr f_Md_17 (by decide +kernel) (by omega) rfl rfl ?_
  refine g_iload_n (i := 2) (by decide +kernel) rfl ?_
  refine g_lald (j := k) (by decide +kernel) (by omega) rfl (by omega) (by omega) (by decide) ?_
  rw [hA]
  refine g_lload_n (i := 3) (by decide +kernel) rfl ?_
  refine g_lsub (by decide +kernel) ?_
  refine g_ldc2 (x := 359) (a := 100) (by decide +kernel) c_Md_359 (by decide) ?_
  refine g_lmul (by decide +kernel) ?_
  refine g_aload_n (i := 0) (by decide +kernel) rfl ?_
  refine g_iload_n (i := 2) (by decide +kernel) rfl ?_
  refine g_bipush (a := 8) (by decide +kernel) (by decide) ?_
  refine g_cVI (st := _) (c_Md_marked (k := k) (w := 8) hn (by omega) (by omega)) k_Md_marked l_Md_192 (by decide +kernel) (by omega) rfl rfl rfl rfl (Nat.le_of_ble_eq_true rfl) (by decide) ⟨by decide, by decide⟩ ?_
  rintro a9 σ9 ⟨ea9, hσ9⟩
  obtain rfl := hσ9.symm
  rw [hS.mk hk (show 8 < 9 by decide)] at ea9
  subst ea9
  refine g_iconst (a := 1) (by decide +kernel) ?_
  refine g_iadd (by decide +kernel) ?_
  refine g_i2l (by decide +kernel) ⟨by omega, by omega⟩ ?_
  refine g_ldiv (by decide +kernel) ⟨by omega, by omega, by omega, by omega⟩ ?_
  refine g_cSL (st := _) (c_Md_least ⟨by omega, by omega⟩ ⟨by omega, by omega⟩) k_Md_least l_Md_361 (by decide +kernel) rfl rfl (Nat.le_of_ble_eq_true rfl) (by decide) ⟨by decide, by decide⟩ ?_
  rintro a9 σ9 ⟨ea9, hσ9⟩
  obtain rfl := hσ9.symm
  subst ea9
  refine g_cSL (st := _) (c_Md_least ⟨by omega, by omega⟩ ⟨by omega, by omega⟩) k_Md_least l_Md_361 (by decide +kernel) rfl rfl (Nat.le_of_ble_eq_true rfl) (by decide) ⟨by decide, by decide⟩ ?_
  rintro a9 σ9 ⟨ea9, hσ9⟩
  obtain rfl := hσ9.symm
  rw [← how] at ea9
  subst ea9
  refine g_lstore (i := 5) (L' := [(0, _), (1, _), (2, _), (3, _), (5, _)]) (by decide +kernel) rfl rfl ?_
  refine g_aload_n (i := 0) (by decide +kernel) rfl ?_
  refine g_iload_n (i := 2) (by decide +kernel) rfl ?_
  refine g_cVI (st := _) (c_Md_around (k := k) hn (by omega)) k_Md_around l_Md_169 (by decide +kernel) (by omega) rfl rfl rfl rfl (Nat.le_of_ble_eq_true rfl) (by decide) ⟨by decide, by decide⟩ ?_
  rintro a9 σ9 ⟨ea9, hσ9⟩
  obtain rfl := hσ9.symm
  rw [ka] at ea9
  subst ea9
  refine g_istore (i := 7) (L' := [(0, _), (1, _), (2, _), (3, _), (5, _), (7, _)]) (by decide +kernel) rfl rfl ?_
  refine g_lload (i := 5) (by decide +kernel) rfl ?_
  refine g_iload (i := 7) (by decide +kernel) rfl ?_
  refine g_if_ge (off := 8) (tgt := 71) (by decide +kernel) (by decide) ⟨by omega, by omega⟩ (fun h63 => ?_) (fun h63 => ?_)
  · refine g_aload_n (i := 0) (by decide +kernel) rfl ?_
    refine g_getr f_Md_100 (by decide +kernel) (by omega) rfl rfl ?_
    refine g_bipush (a := 12) (by decide +kernel) (by decide) ?_
    refine g_iload_n (i := 1) (by decide +kernel) rfl ?_
    refine g_imul (by decide +kernel) ?_
    refine g_iload (i := 7) (by decide +kernel) rfl ?_
    refine g_iadd (by decide +kernel) ?_
    refine g_iald (j := ((12 * s) + (S 2 k).toNat)) (by decide +kernel) (by omega) rfl (by omega) (by omega) (by decide) ?_
    first
      | (have hz : S 2 k < 0 := h63
         exact J83 100 (by decide) (by rw [E6, if_pos (by omega)]))
      | (have hz : 0 ≤ S 2 k := h63
         have g6 := zv_sg (t := t) hM (show (S 2 k).toNat < zN S by omega)
         have h6' := h6 (by omega)
         rw [h6']
         exact J83 _ g6 (by rw [E6, if_neg (by omega)]))
  · refine g_bipush (a := 100) (by decide +kernel) (by decide) ?_
    refine g_goto (off := 15) (tgt := 83) (by decide +kernel) (by decide) ?_
    first
      | (have hz : S 2 k < 0 := h63
         exact J83 100 (by decide) (by rw [E6, if_pos (by omega)]))
      | (have hz : 0 ≤ S 2 k := h63
         have g6 := zv_sg (t := t) hM (show (S 2 k).toNat < zN S by omega)
         have h6' := h6 (by omega)
         rw [h6']
         exact J83 _ g6 (by rw [E6, if_neg (by omega)]))
/-- rows 202 to 206 change at one place alone -/
def zRk (σ τ : zSt) (q : Nat) : Prop := (∀ a, (a < 202 ∨ 206 < a) → τ a = σ a) ∧ ∀ a, 202 ≤ a → a ≤ 206 → ∀ j, j ≠ q → τ a j = σ a j
theorem zRk.rf (σ : zSt) (q : Nat) : zRk σ σ q := ⟨fun _ _ => rfl, fun _ _ _ _ _ => rfl⟩
theorem zRk.tr {σ τ υ : zSt} {q : Nat} (h : zRk σ τ q) (g : zRk τ υ q) : zRk σ υ q := ⟨fun a ha => (g.1 a ha).trans (h.1 a ha), fun a a1 a2 j hj => (g.2 a a1 a2 j hj).trans (h.2 a a1 a2 j hj)⟩
theorem zRk.put {σ τ : zSt} {q b : Nat} {v : Int} (h : zRk σ τ q) (b1 : 202 ≤ b) (b2 : b ≤ 206) : zRk σ (zs τ b q v) q := ⟨fun a ha => by rw [zs_other (by omega)]; exact h.1 a ha, fun a a1 a2 j hj => by rw [zs_ne (fun y => hj y.2)]; exact h.2 a a1 a2 j hj⟩
def zCol (τ S : zSt) (q : Nat) (t : Int) (k : Nat) : Prop := τ 202 q = zv S t 1 k ∧ τ 203 q = zv S t 2 k ∧ τ 204 q = zv S t 3 k ∧ τ 205 q = zv S t 4 k ∧ τ 206 q = zv S t 6 k
theorem s_Md_laysClip {G : zG} {X : zX} {n : Nat} {σ : zSt} {S : zSt} {s k : Nat} {t : Int} (hn : 220 ≤ n) (hx : zSx σ S s t k) (hk : k < zN S) (ht : 0 ≤ t ∧ t ≤ 1999) (ho : ¬ zOfA S (zv S t) k) {τ : zSt} (hr : zv S t 1 k = 2 ∨ zv S t 1 k = 3) (g : zRk σ τ (12 * s + k)) (g1 : τ 202 (12 * s + k) = zv S t 1 k) (g4 : τ 205 (12 * s + k) = zv S t 4 k) {x9 : Int} : Go G X m_Md_laysClip (15, 0, 0, 0, 0) n SH τ 140 [(0, vr G 189), (1, vi (s : Int)), (2, vi (k : Int)), (3, vl (zTaA S t (zv S t) k)), (5, vi t), (6, vi (12 * (s : Int) + k)), (7, vl (zBK S t k)), (9, vl x9)] [vl (zv S t 5 k)] (zV n SH (fun σ' => zRk σ σ' (12 * s + k) ∧ zCol σ' S (12 * s + k) t k)) := by
  obtain ⟨hM, ⟨hS, hL⟩, hO, hP, hR, hs8, hKN⟩ := id hx
  have e0 := hS.n
  have e8 := hS.p
  have hN := hS.N
  have hz : zN S = (S 0 0).toNat := rfl
  obtain ⟨d, r, hv⟩ := hM.1.1
  have R := zv_run hM hk hr
  have bd := zLay_bound hv hM.1.lay hk
  have tk := hv.2.1 k hk
  have c := hL k hk
  have hT : zMc τ S := hS.moved (g.1 190 (by omega))
  have t1 : τ 191 k = (zsa S).1 k := by rw [g.1 191 (by omega)]; exact c.1
  have t2 : τ 192 k = (zsa S).2 k := by rw [g.1 192 (by omega)]; exact c.2.1
  have hk12 : k < 12 := by omega
  have mk := (hv.2.2.1 k hk).1.2.1
  have m4 := hS.mr hk12 (show 4 < 9 by decide)
  have p0 : 0 ≤ zv S t 5 k * S 7 (9 * k + 1) := Int.mul_nonneg R.2.1.1 (by omega)
  have p1 : zv S t 5 k * S 7 (9 * k + 1) ≤ zv S t 5 k * 4 := Int.mul_le_mul_of_nonneg_left mk.2 R.2.1.1
  obtain ⟨E1, E5, E2, E3, E4, E6⟩ := zv_eqs hM t hk
  rw [if_pos hr] at E2 E3
  obtain ⟨υ, eυ⟩ : ∃ υ, υ = zs τ 204 (12 * s + k) (zv S t 3 k) := ⟨_, rfl⟩
  have gυ : zRk σ υ (12 * s + k) := by rw [eυ]; exact g.put (by decide) (by decide)
  have hU : zMc υ S := hS.moved (gυ.1 190 (by omega))
  have u1 : υ 191 k = (zsa S).1 k := by rw [gυ.1 191 (by omega)]; exact c.1
  have J217 : ∀ v : Int, v = zv S t 2 k → Go G X m_Md_laysClip (15, 0, 0, 0, 0) n SH υ 217 [(0, vr G 189), (1, vi (s : Int)), (2, vi (k : Int)), (3, vl (zTaA S t (zv S t) k)), (5, vi t), (6, vi (12 * (s : Int) + k)), (7, vl (zBK S t k)), (9, vl (zv S t 5 k)), (11, vl (zv S t 5 k * S 7 (9 * k + 1) % (zsa S).1 k))] [vl v, vi (12 * (s : Int) + k), vr G 203] (zV n SH (fun σ' => zRk σ σ' (12 * s + k) ∧ zCol σ' S (12 * s + k) t k)) := by
    rintro v rfl
    have gω : zRk σ (zs υ 203 (12 * s + k) (zv S t 2 k)) (12 * s + k) := gυ.put (by decide) (by decide)
    have w6 : S 2 k ≠ -1 → zs υ 203 (12 * s + k) (zv S t 2 k) 206 (12 * s + (S 2 k).toNat) = zv S t 6 (S 2 k).toNat := fun hne => by
      rw [gω.2 206 (by decide) (by decide) _ (by omega)]
      exact (hR (S 2 k).toNat (by omega)).2.2.2.2
    refine g_last (j := (12 * s + k)) (by decide +kernel) (by omega) rfl (by omega) (by omega) (by decide) ?_
    refine g_aload_n (i := 0) (by decide +kernel) rfl ?_
    refine g_getr f_Md_100 (by decide +kernel) (by omega) rfl rfl ?_
    refine g_iload (i := 6) (by decide +kernel) rfl ?_
    refine g_aload_n (i := 0) (by decide +kernel) rfl ?_
    refine g_iload_n (i := 1) (by decide +kernel) rfl ?_
    refine g_iload_n (i := 2) (by decide +kernel) rfl ?_
    refine g_lload (i := 9) (by decide +kernel) rfl ?_
    refine g_cVI (st := _) (c_Md_strengthBy (s := s) (k := k) (t := t) hn hM (hS.moved (gω.1 190 (by omega))) (by rw [gω.1 192 (by omega)]; exact c.2.1) hk hr w6 hs8) k_Md_strengthBy l_Md_356 (by decide +kernel) (by omega) rfl rfl rfl rfl (Nat.le_of_ble_eq_true rfl) (by decide) ⟨by decide, by decide⟩ ?_
    rintro a9 σ9 ⟨ea9, hσ9⟩
    obtain rfl := hσ9.symm
    subst ea9
    refine g_iast (j := (12 * s + k)) (by decide +kernel) (by omega) rfl (by omega) (by omega) (by decide) ?_
    refine g_retV (by decide +kernel) rfl ⟨by decide, by decide⟩ ?_
    refine ⟨gω.put (by decide) (by decide), ?_, ?_, ?_, ?_, ?_⟩
    · rw [zs_other (by decide), zs_other (by decide), eυ, zs_other (by decide)]; exact g1
    · rw [zs_other (by decide), zs_eq]
    · rw [zs_other (by decide), zs_other (by decide), eυ, zs_eq]
    · rw [zs_other (by decide), zs_other (by decide), eυ, zs_other (by decide)]; exact g4
    · rw [zs_eq]
  refine g_lstore (i := 9) (L' := [(0, _), (1, _), (2, _), (3, _), (5, _), (6, _), (7, _), (9, _)]) (by decide +kernel) rfl rfl ?_
  refine g_aload_n (i := 0) (by decide +kernel) rfl ?_
  refine g_getr f_Md_94 (by decide +kernel) (by omega) rfl rfl ?_
  refine g_iload (i := 6) (by decide +kernel) rfl ?_
  refine g_lload (i := 9) (by decide +kernel) rfl ?_
  refine g_aload_n (i := 0) (by decide +kernel) rfl ?_
  refine g_iload_n (i := 2) (by decide +kernel) rfl ?_
  refine g_iconst (a := 1) (by decide +kernel) ?_
  refine g_cVI (st := _) (c_Md_marked (k := k) (w := 1) hn (by omega) (by omega)) k_Md_marked l_Md_192 (by decide +kernel) (by omega) rfl rfl rfl rfl (Nat.le_of_ble_eq_true rfl) (by decide) ⟨by decide, by decide⟩ ?_
  rintro a9 σ9 ⟨ea9, hσ9⟩
  obtain rfl := hσ9.symm
  rw [hT.mk hk (show 1 < 9 by decide)] at ea9
  subst ea9
  refine g_i2l (by decide +kernel) ⟨by omega, by omega⟩ ?_
  refine g_lmul (by decide +kernel) ?_
  refine g_aload_n (i := 0) (by decide +kernel) rfl ?_
  refine g_getr f_Md_13 (by decide +kernel) (by omega) rfl rfl ?_
  refine g_iload_n (i := 2) (by decide +kernel) rfl ?_
  refine g_lald (j := k) (by decide +kernel) (by omega) rfl (by omega) (by omega) (by decide) ?_
  rw [t1]
  refine g_ldiv (by decide +kernel) ⟨by omega, by omega, by omega, by omega⟩ ?_
  rw [← E3]
  refine g_last (j := (12 * s + k)) (by decide +kernel) (by omega) rfl (by omega) (by omega) (by decide) ?_
  rw [← eυ]
  refine g_lload (i := 9) (by decide +kernel) rfl ?_
  refine g_aload_n (i := 0) (by decide +kernel) rfl ?_
  refine g_iload_n (i := 2) (by decide +kernel) rfl ?_
  refine g_iconst (a := 1) (by decide +kernel) ?_
  refine g_cVI (st := _) (c_Md_marked (k := k) (w := 1) hn (by omega) (by omega)) k_Md_marked l_Md_192 (by decide +kernel) (by omega) rfl rfl rfl rfl (Nat.le_of_ble_eq_true rfl) (by decide) ⟨by decide, by decide⟩ ?_
  rintro a9 σ9 ⟨ea9, hσ9⟩
  obtain rfl := hσ9.symm
  rw [hU.mk hk (show 1 < 9 by decide)] at ea9
  subst ea9
  refine g_i2l (by decide +kernel) ⟨by omega, by omega⟩ ?_
  refine g_lmul (by decide +kernel) ?_
  refine g_aload_n (i := 0) (by decide +kernel) rfl ?_
  refine g_getr f_Md_13 (by decide +kernel) (by omega) rfl rfl ?_
  refine g_iload_n (i := 2) (by decide +kernel) rfl ?_
  refine g_lald (j := k) (by decide +kernel) (by omega) rfl (by omega) (by omega) (by decide) ?_
  rw [u1]
  refine g_lrem (by decide +kernel) ⟨by omega, by omega, by omega, by omega⟩ ?_
  refine g_lstore (i := 11) (L' := [(0, _), (1, _), (2, _), (3, _), (5, _), (6, _), (7, _), (9, _), (11, _)]) (by decide +kernel) rfl rfl ?_
  refine g_aload_n (i := 0) (by decide +kernel) rfl ?_
  refine g_getr f_Md_91 (by decide +kernel) (by omega) rfl rfl ?_
  refine g_iload (i := 6) (by decide +kernel) rfl ?_
  refine g_aload_n (i := 0) (by decide +kernel) rfl ?_
  refine g_iload_n (i := 2) (by decide +kernel) rfl ?_
  refine g_iconst (a := 4) (by decide +kernel) ?_
  refine g_cVI (st := _) (c_Md_marked (k := k) (w := 4) hn (by omega) (by omega)) k_Md_marked l_Md_192 (by decide +kernel) (by omega) rfl rfl rfl rfl (Nat.le_of_ble_eq_true rfl) (by decide) ⟨by decide, by decide⟩ ?_
  rintro a9 σ9 ⟨ea9, hσ9⟩
  obtain rfl := hσ9.symm
  rw [hU.mk hk (show 4 < 9 by decide)] at ea9
  subst ea9
  refine g_iconst (a := 1) (by decide +kernel) ?_
  refine g_icmp_ne (off := 17) (tgt := 215) (by decide +kernel) (by decide) ⟨by omega, by omega⟩ ⟨by omega, by omega⟩ (fun h198 => ?_) (fun h198 => ?_)
  · refine g_lload (i := 11) (by decide +kernel) rfl ?_
    first
      | (have hz : S 7 (9 * k + 4) = 1 := h198
         exact J217 _ (by rw [E2, if_pos hz]))
      | (have hz : ¬ S 7 (9 * k + 4) = 1 := h198
         exact J217 _ (by rw [E2, if_neg hz]))
  · refine g_aload_n (i := 0) (by decide +kernel) rfl ?_
    refine g_getr f_Md_13 (by decide +kernel) (by omega) rfl rfl ?_
    refine g_iload_n (i := 2) (by decide +kernel) rfl ?_
    refine g_lald (j := k) (by decide +kernel) (by omega) rfl (by omega) (by omega) (by decide) ?_
    rw [u1]
    refine g_lconst (c := 1) (a := 1) (by decide +kernel) (by decide) ?_
    refine g_lsub (by decide +kernel) ?_
    refine g_lload (i := 11) (by decide +kernel) rfl ?_
    refine g_lsub (by decide +kernel) ?_
    refine g_goto (off := 5) (tgt := 217) (by decide +kernel) (by decide) ?_
    first
      | (have hz : S 7 (9 * k + 4) = 1 := h198
         exact J217 _ (by rw [E2, if_pos hz]))
      | (have hz : ¬ S 7 (9 * k + 4) = 1 := h198
         exact J217 _ (by rw [E2, if_neg hz]))
theorem c_Md_laysClip {G : zG} {n : Nat} {σ : zSt} {S : zSt} {s k : Nat} {t : Int} (hn : 220 ≤ n) (hx : zSx σ S s t k) (hk : k < zN S) (ht : 0 ≤ t ∧ t ≤ 1999) (ho : ¬ zOfA S (zv S t) k) (hp : σ 203 (12 * s + k) = -1 ∧ σ 204 (12 * s + k) = -1 ∧ σ 206 (12 * s + k) = 0)  : Gm G y_Md_laysClip m_Md_laysClip 15 0 0 [vr G 189, vi (s : Int), vi (k : Int), vl (zTaA S t (zv S t) k), vi t] n SH σ (zV n SH (fun σ' => zRk σ σ' (12 * s + k) ∧ zCol σ' S (12 * s + k) t k)) := by
  refine g_enter (L := [(0, _), (1, _), (2, _), (3, _), (5, _)]) (by decide) rfl rfl rfl (Nat.le_of_ble_eq_true rfl) (fun X => ?_)
  obtain ⟨hM, ⟨hS, hL⟩, hO, hP, hR, hs8, hKN⟩ := id hx
  have e0 := hS.n
  have e8 := hS.p
  have hN := hS.N
  have hz : zN S = (S 0 0).toNat := rfl
  obtain ⟨d, r, hv⟩ := hM.1.1
  have c := hL k hk
  have bd := zLay_bound hv hM.1.lay hk
  have tk := hv.2.1 k hk
  have hk12 : k < 12 := by omega
  have bi := zBK_in (t := t) hM hk
  have m5 := hS.mr hk12 (show 5 < 9 by decide)
  have rk := zrk_le (r := r) hk
  have tb : -1 ≤ zTaA S t (zv S t) k ∧ zTaA S t (zv S t) k ≤ 80109810 := by
    unfold zTaA
    split
    · omega
    · exact (zv_rg hM (by omega)).1
  obtain ⟨ta, eta⟩ : ∃ ta, ta = zTaA S t (zv S t) k := ⟨_, rfl⟩
  obtain ⟨b, eb⟩ : ∃ b, b = zBK S t k := ⟨_, rfl⟩
  have E := zv_eqs hM t hk
  unfold zEqA at E
  rw [← eta, show zBkA S (zsa S).2 t (zv S t) (zPz S) k = b from eb.symm] at E
  obtain ⟨E1, E5, E2, E3, E4, E6⟩ := E
  rw [if_neg ho] at E1
  rw [← eta] at tb
  rw [← eb] at bi
  have zs4 := zv_st (t := t) hM hk
  obtain ⟨τ, eτ⟩ : ∃ τ, τ = zs σ 205 (12 * s + k) b := ⟨_, rfl⟩
  have gτ : zRk σ τ (12 * s + k) := by rw [eτ]; exact (zRk.rf _ _).put (by decide) (by decide)
  have hT : zMc τ S := hS.moved (gτ.1 190 (by omega))
  have t2 : τ 192 k = (zsa S).2 k := by rw [gτ.1 192 (by omega)]; exact c.2.1
  have J99 : ∀ v : Int, v = zv S t 1 k → v ≠ 0 → Go G X m_Md_laysClip (15, 0, 0, 0, 0) n SH τ 99 [(0, vr G 189), (1, vi (s : Int)), (2, vi (k : Int)), (3, vl (ta)), (5, vi t), (6, vi (12 * (s : Int) + k)), (7, vl (b)), (9, vl (ta - b))] [vi v, vi (12 * (s : Int) + k), vr G 202] (zV n SH (fun σ' => zRk σ σ' (12 * s + k) ∧ zCol σ' S (12 * s + k) t k)) := by
    rintro v rfl v0
    rw [if_neg v0] at E4
    have gω : zRk σ (zs τ 202 (12 * s + k) (zv S t 1 k)) (12 * s + k) := gτ.put (by decide) (by decide)
    have w4 : zs τ 202 (12 * s + k) (zv S t 1 k) 205 (12 * s + k) = zv S t 4 k := by rw [zs_other (by decide), eτ, zs_eq, E4]
    have w2 : zs τ 202 (12 * s + k) (zv S t 1 k) 192 k = (zsa S).2 k := by rw [zs_other (by decide)]; exact t2
    refine g_iast (j := (12 * s + k)) (by decide +kernel) (by omega) rfl (by omega) (by omega) (by decide) ?_
    refine g_aload_n (i := 0) (by decide +kernel) rfl ?_
    refine g_getr f_Md_88 (by decide +kernel) (by omega) rfl rfl ?_
    refine g_iload (i := 6) (by decide +kernel) rfl ?_
    refine g_iald (j := (12 * s + k)) (by decide +kernel) (by omega) rfl (by omega) (by omega) (by decide) ?_
    rw [zs_eq]
    refine g_iconst (a := 2) (by decide +kernel) ?_
    refine g_iconst (a := 3) (by decide +kernel) ?_
    refine g_cSI (st := _) (c_Md_isIn ⟨by omega, by omega⟩ ⟨by omega, by omega⟩ ⟨by omega, by omega⟩) k_Md_isIn l_Md_152 (by decide +kernel) rfl rfl (Nat.le_of_ble_eq_true rfl) (by decide) ⟨by decide, by decide⟩ ?_
    rintro a9 σ9 ⟨ea9, hσ9⟩
    obtain rfl := hσ9.symm
    subst ea9
    refine g_if_ne (off := 4) (tgt := 116) (by decide +kernel) (by decide) zbr (fun h112 => ?_) (fun h112 => ?_)
    · have h112 := zb1.mp h112
      refine g_aload_n (i := 0) (by decide +kernel) rfl ?_
      refine g_getr f_Md_88 (by decide +kernel) (by omega) rfl rfl ?_
      refine g_iload (i := 6) (by decide +kernel) rfl ?_
      refine g_iald (j := (12 * s + k)) (by decide +kernel) (by omega) rfl (by omega) (by omega) (by decide) ?_
      rw [zs_eq]
      refine g_iconst (a := 3) (by decide +kernel) ?_
      refine g_icmp_ne (off := 14) (tgt := 138) (by decide +kernel) (by decide) ⟨by omega, by omega⟩ ⟨by omega, by omega⟩ (fun h124 => ?_) (fun h124 => ?_)
      · refine g_lload (i := 9) (by decide +kernel) rfl ?_
        first
          | (have hz : zv S t 1 k = 3 := h124
             have e5 : (zsa S).2 k - 1 = zv S t 5 k := by rw [E5, if_neg (by omega), if_pos hz]
             rw [e5, eta, eb]
             exact s_Md_laysClip hn hx hk ht ho (Or.inr hz) gω (zs_eq _ _ _ _) w4)
          | (have hz : zv S t 1 k = 2 := by omega
             have e5 : ta - b = zv S t 5 k := by rw [E5, if_pos hz]
             rw [e5, eta, eb]
             exact s_Md_laysClip hn hx hk ht ho (Or.inl hz) gω (zs_eq _ _ _ _) w4)
      · refine g_aload_n (i := 0) (by decide +kernel) rfl ?_
        refine g_getr f_Md_17 (by decide +kernel) (by omega) rfl rfl ?_
        refine g_iload_n (i := 2) (by decide +kernel) rfl ?_
        refine g_lald (j := k) (by decide +kernel) (by omega) rfl (by omega) (by omega) (by decide) ?_
        rw [w2]
        refine g_lconst (c := 1) (a := 1) (by decide +kernel) (by decide) ?_
        refine g_lsub (by decide +kernel) ?_
        refine g_goto (off := 5) (tgt := 140) (by decide +kernel) (by decide) ?_
        first
          | (have hz : zv S t 1 k = 3 := h124
             have e5 : (zsa S).2 k - 1 = zv S t 5 k := by rw [E5, if_neg (by omega), if_pos hz]
             rw [e5, eta, eb]
             exact s_Md_laysClip hn hx hk ht ho (Or.inr hz) gω (zs_eq _ _ _ _) w4)
          | (have hz : zv S t 1 k = 2 := by omega
             have e5 : ta - b = zv S t 5 k := by rw [E5, if_pos hz]
             rw [e5, eta, eb]
             exact s_Md_laysClip hn hx hk ht ho (Or.inl hz) gω (zs_eq _ _ _ _) w4)
    · have h112 := zb0.mp h112
      refine g_retV (by decide +kernel) rfl ⟨by decide, by decide⟩ ?_
      have nr : ¬ (zv S t 1 k = 2 ∨ zv S t 1 k = 3) := by omega
      have nn := zv_no hM hk nr
      have q3 : (zs τ 202 (12 * s + k) (zv S t 1 k)) 203 (12 * s + k) = -1 := by rw [zs_other (by decide), eτ, zs_other (by decide)]; exact hp.1
      have q4 : (zs τ 202 (12 * s + k) (zv S t 1 k)) 204 (12 * s + k) = -1 := by rw [zs_other (by decide), eτ, zs_other (by decide)]; exact hp.2.1
      have q6 : (zs τ 202 (12 * s + k) (zv S t 1 k)) 206 (12 * s + k) = 0 := by rw [zs_other (by decide), eτ, zs_other (by decide)]; exact hp.2.2
      exact ⟨gω, zs_eq _ _ _ _, by rw [q3, nn.1], by rw [q4, nn.2.1], w4, by rw [q6, nn.2.2]⟩
  rw [← eta]
  refine g_bipush (a := 12) (by decide +kernel) (by decide) ?_
  refine g_iload_n (i := 1) (by decide +kernel) rfl ?_
  refine g_imul (by decide +kernel) ?_
  refine g_iload_n (i := 2) (by decide +kernel) rfl ?_
  refine g_iadd (by decide +kernel) ?_
  refine g_istore (i := 6) (L' := [(0, _), (1, _), (2, _), (3, _), (5, _), (6, _)]) (by decide +kernel) rfl rfl ?_
  refine g_aload_n (i := 0) (by decide +kernel) rfl ?_
  refine g_iload_n (i := 1) (by decide +kernel) rfl ?_
  refine g_iload_n (i := 2) (by decide +kernel) rfl ?_
  refine g_iload (i := 5) (by decide +kernel) rfl ?_
  refine g_cVL (st := []) (c_Md_beginAt (s := s) (t := t) hn hx hv ht 11 k hk (by omega) tk.1) k_Md_beginAt l_Md_353 (by decide +kernel) (by omega) rfl rfl rfl rfl (Nat.le_of_ble_eq_true rfl) (by decide) ⟨by decide, by decide⟩ ?_
  rintro a9 σ9 ⟨ea9, hσ9⟩
  obtain rfl := hσ9.symm
  rw [← eb] at ea9
  subst ea9
  refine g_lstore (i := 7) (L' := [(0, _), (1, _), (2, _), (3, _), (5, _), (6, _), (7, _)]) (by decide +kernel) rfl rfl ?_
  refine g_aload_n (i := 0) (by decide +kernel) rfl ?_
  refine g_getr f_Md_97 (by decide +kernel) (by omega) rfl rfl ?_
  refine g_iload (i := 6) (by decide +kernel) rfl ?_
  refine g_lload (i := 7) (by decide +kernel) rfl ?_
  refine g_last (j := (12 * s + k)) (by decide +kernel) (by omega) rfl (by omega) (by omega) (by decide) ?_
  rw [← eτ]
  refine g_lload_n (i := 3) (by decide +kernel) rfl ?_
  refine g_lload (i := 7) (by decide +kernel) rfl ?_
  refine g_lsub (by decide +kernel) ?_
  refine g_lstore (i := 9) (L' := [(0, _), (1, _), (2, _), (3, _), (5, _), (6, _), (7, _), (9, _)]) (by decide +kernel) rfl rfl ?_
  refine g_aload_n (i := 0) (by decide +kernel) rfl ?_
  refine g_getr f_Md_88 (by decide +kernel) (by omega) rfl rfl ?_
  refine g_iload (i := 6) (by decide +kernel) rfl ?_
  refine g_lload (i := 7) (by decide +kernel) rfl ?_
  refine g_lconst (c := 0) (a := 0) (by decide +kernel) (by decide) ?_
  refine g_lcmp (by decide +kernel) ⟨by omega, by omega⟩ ⟨by omega, by omega⟩ ?_
  refine g_if_lt (off := 10) (tgt := 53) (by decide +kernel) (by decide) zcmp_r (fun h43 => ?_) (fun h43 => ?_)
  · have h43 := zcmp_lt.mp h43
    refine g_iconst (a := 1) (by decide +kernel) ?_
    refine g_goto (off := 45) (tgt := 99) (by decide +kernel) (by decide) ?_
    first
      | exact J99 _ (by rw [E1, if_pos (by omega)]) (by decide)
      | exact J99 _ (by rw [E1, if_neg (by omega), if_pos (by omega)]) (by decide)
      | exact J99 _ (by rw [E1, if_neg (by omega), if_neg (by omega), if_pos ⟨by assumption, by omega⟩]) (by decide)
      | exact J99 _ (by rw [E1, if_neg (by omega), if_neg (by omega), if_neg (by omega)]) (by decide)
  · have h43 := zcmp_ge.mp h43
    refine g_lload (i := 7) (by decide +kernel) rfl ?_
    refine g_lload_n (i := 3) (by decide +kernel) rfl ?_
    refine g_lcmp (by decide +kernel) ⟨by omega, by omega⟩ ⟨by omega, by omega⟩ ?_
    refine g_if_le (off := 7) (tgt := 57) (by decide +kernel) (by decide) zcmp_r (fun h50 => ?_) (fun h50 => ?_)
    · have h50 := zcmp_le.mp h50
      refine g_lload (i := 9) (by decide +kernel) rfl ?_
      refine g_aload_n (i := 0) (by decide +kernel) rfl ?_
      refine g_getr f_Md_17 (by decide +kernel) (by omega) rfl rfl ?_
      refine g_iload_n (i := 2) (by decide +kernel) rfl ?_
      refine g_lald (j := k) (by decide +kernel) (by omega) rfl (by omega) (by omega) (by decide) ?_
      rw [t2]
      refine g_lcmp (by decide +kernel) ⟨by omega, by omega⟩ ⟨by omega, by omega⟩ ?_
      refine g_if_ge (off := 7) (tgt := 73) (by decide +kernel) (by decide) zcmp_r (fun h66 => ?_) (fun h66 => ?_)
      · have h66 := zcmp_ge.mp h66
        refine g_aload_n (i := 0) (by decide +kernel) rfl ?_
        refine g_iload_n (i := 2) (by decide +kernel) rfl ?_
        refine g_iconst (a := 5) (by decide +kernel) ?_
        refine g_cVI (st := _) (c_Md_marked (k := k) (w := 5) hn (by omega) (by omega)) k_Md_marked l_Md_192 (by decide +kernel) (by omega) rfl rfl rfl rfl (Nat.le_of_ble_eq_true rfl) (by decide) ⟨by decide, by decide⟩ ?_
        rintro a9 σ9 ⟨ea9, hσ9⟩
        obtain rfl := hσ9.symm
        rw [hT.mk hk (show 5 < 9 by decide)] at ea9
        subst ea9
        refine g_iconst (a := 1) (by decide +kernel) ?_
        refine g_icmp_ne (off := 18) (tgt := 98) (by decide +kernel) (by decide) ⟨by omega, by omega⟩ ⟨by omega, by omega⟩ (fun h80 => ?_) (fun h80 => ?_)
        · refine g_iconst (a := 4) (by decide +kernel) ?_
          first
            | exact J99 _ (by rw [E1, if_pos (by omega)]) (by decide)
            | exact J99 _ (by rw [E1, if_neg (by omega), if_pos (by omega)]) (by decide)
            | exact J99 _ (by rw [E1, if_neg (by omega), if_neg (by omega), if_pos ⟨by assumption, by omega⟩]) (by decide)
            | exact J99 _ (by rw [E1, if_neg (by omega), if_neg (by omega), if_neg (by omega)]) (by decide)
        · refine g_aload_n (i := 0) (by decide +kernel) rfl ?_
          refine g_getr f_Md_17 (by decide +kernel) (by omega) rfl rfl ?_
          refine g_iload_n (i := 2) (by decide +kernel) rfl ?_
          refine g_lald (j := k) (by decide +kernel) (by omega) rfl (by omega) (by omega) (by decide) ?_
          rw [t2]
          refine g_lconst (c := 0) (a := 0) (by decide +kernel) (by decide) ?_
          refine g_lcmp (by decide +kernel) ⟨by omega, by omega⟩ ⟨by omega, by omega⟩ ?_
          refine g_if_le (off := 7) (tgt := 98) (by decide +kernel) (by decide) zcmp_r (fun h91 => ?_) (fun h91 => ?_)
          · have h91 := zcmp_le.mp h91
            refine g_iconst (a := 4) (by decide +kernel) ?_
            first
              | exact J99 _ (by rw [E1, if_pos (by omega)]) (by decide)
              | exact J99 _ (by rw [E1, if_neg (by omega), if_pos (by omega)]) (by decide)
              | exact J99 _ (by rw [E1, if_neg (by omega), if_neg (by omega), if_pos ⟨by assumption, by omega⟩]) (by decide)
              | exact J99 _ (by rw [E1, if_neg (by omega), if_neg (by omega), if_neg (by omega)]) (by decide)
          · have h91 := zcmp_gt.mp h91
            refine g_iconst (a := 3) (by decide +kernel) ?_
            refine g_goto (off := 4) (tgt := 99) (by decide +kernel) (by decide) ?_
            first
              | exact J99 _ (by rw [E1, if_pos (by omega)]) (by decide)
              | exact J99 _ (by rw [E1, if_neg (by omega), if_pos (by omega)]) (by decide)
              | exact J99 _ (by rw [E1, if_neg (by omega), if_neg (by omega), if_pos ⟨by assumption, by omega⟩]) (by decide)
              | exact J99 _ (by rw [E1, if_neg (by omega), if_neg (by omega), if_neg (by omega)]) (by decide)
      · have h66 := zcmp_lt.mp h66
        refine g_iconst (a := 2) (by decide +kernel) ?_
        refine g_goto (off := 29) (tgt := 99) (by decide +kernel) (by decide) ?_
        first
          | exact J99 _ (by rw [E1, if_pos (by omega)]) (by decide)
          | exact J99 _ (by rw [E1, if_neg (by omega), if_pos (by omega)]) (by decide)
          | exact J99 _ (by rw [E1, if_neg (by omega), if_neg (by omega), if_pos ⟨by assumption, by omega⟩]) (by decide)
          | exact J99 _ (by rw [E1, if_neg (by omega), if_neg (by omega), if_neg (by omega)]) (by decide)
    · have h50 := zcmp_gt.mp h50
      refine g_iconst (a := 1) (by decide +kernel) ?_
      refine g_goto (off := 45) (tgt := 99) (by decide +kernel) (by decide) ?_
      first
        | exact J99 _ (by rw [E1, if_pos (by omega)]) (by decide)
        | exact J99 _ (by rw [E1, if_neg (by omega), if_pos (by omega)]) (by decide)
        | exact J99 _ (by rw [E1, if_neg (by omega), if_neg (by omega), if_pos ⟨by assumption, by omega⟩]) (by decide)
        | exact J99 _ (by rw [E1, if_neg (by omega), if_neg (by omega), if_neg (by omega)]) (by decide)
