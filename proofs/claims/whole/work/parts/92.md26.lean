/-- a hypothesis that is kept from being looked at -/
def zHid (p : Prop) : Prop := p
theorem zEqv_S {S : zSt} {cc : Nat → Int} {k : Nat} {h o m : Int} (hN : zN S ≤ 12 ∧ (S 0 8).toNat ≤ 6) (hk : k < 12) (E : zEqv S (zMw cc 0)) : zEqv (zOpS S k h o m) (zMw (zu (zu (zu cc (146 + k) h) (158 + k) o) (170 + k) m) 0) := by
  have E1 := zEqv_put (v := h) hN E (r := 4) (j := k) (by decide) (by decide) (by show k < 12; omega)
  have n1 : zN (zs S 4 k h) ≤ 12 ∧ ((zs S 4 k h) 0 8).toNat ≤ 6 := by unfold zN; rw [zs_other (by decide)]; exact hN
  have E2 := zEqv_put (v := o) n1 E1 (r := 5) (j := k) (by decide) (by decide) (by show k < 12; omega)
  have n2 : zN (zs (zs S 4 k h) 5 k o) ≤ 12 ∧ ((zs (zs S 4 k h) 5 k o) 0 8).toNat ≤ 6 := by unfold zN; rw [zs_other (by decide), zs_other (by decide)]; exact hN
  have E3 := zEqv_put (v := m) n2 E2 (r := 6) (j := k) (by decide) (by decide) (by show k < 12; omega)
  have e4 : 0 + zmO 4 + k = 146 + k := by show 0 + 146 + k = _; omega
  have e5 : 0 + zmO 5 + k = 158 + k := by show 0 + 158 + k = _; omega
  have e6 : 0 + zmO 6 + k = 170 + k := by show 0 + 170 + k = _; omega
  rw [e4, e5, e6] at E3
  exact E3
theorem t_Md_start {G : zG} {X : zX} {n : Nat} {σ τ : zSt} {h o m v5 v6 : Int} {k : Nat} {S : zSt} (hn : 220 ≤ n) (hF : zFine S) (hS : zMc σ S) (hk : 0 ≤ σ 189 1 ∧ σ 189 1 ≤ 8) (kN : k < zN S) (hh : 0 ≤ h ∧ h ≤ 3) (hm : 0 ≤ m ∧ m ≤ 999) (r3 : (h = 1 ∨ h = 2) → 0 ≤ o ∧ o < S 0 0) (c1 : zHid (¬ (h < 0 ∨ 3 < h ∨ m < 0 ∨ (h = 3 ∧ 3 < m) ∨ 999 < m))) (c2 : zHid (¬ (¬ (0 ≤ (k : Int) ∧ (k : Int) < S 0 0) ∨ ((h = 1 ∨ h = 2) ∧ ¬ (0 ≤ o ∧ o < S 0 0))))) (c4 : zHid (¬ (S 4 (k : Int).toNat = h ∧ S 5 (k : Int).toNat = (if h = 1 ∨ h = 2 then o else -1) ∧ S 6 (k : Int).toNat = m))) (c5 : zHid (¬ ((h ≠ 0 ∧ ¬ (S 2 (k : Int).toNat ≠ -1 ∧ S 1 (S 2 (k : Int).toNat).toNat = 1)) ∨ ((h = 1 ∨ h = 2) ∧ S 2 o.toNat ≠ S 2 (k : Int).toNat)))) (e6 : v6 = (if h = 1 ∨ h = 2 then o else -1)) (a0 : zAF σ τ) (s0 : τ 189 2 = 0) (c0 : τ 190 = σ 190) (k0 : τ 189 1 = σ 189 1) : Go G X m_Md_start (6, 0, 0, 0, 0) n SH τ 192 [(0, vr G 189), (1, vi (k : Int)), (2, vi h), (3, vi o), (4, vi m), (5, vi v5), (6, vi v6), (7, vi (S 4 (k : Int).toNat))] [] (zI n SH (fun a σ' => zAcM σ σ' a (if (h < 0 ∨ 3 < h ∨ m < 0 ∨ (h = 3 ∧ 3 < m) ∨ 999 < m) then 1 else if (¬ (0 ≤ (k : Int) ∧ (k : Int) < S 0 0) ∨ ((h = 1 ∨ h = 2) ∧ ¬ (0 ≤ o ∧ o < S 0 0))) then 2 else if (S 4 (k : Int).toNat = h ∧ S 5 (k : Int).toNat = (if h = 1 ∨ h = 2 then o else -1) ∧ S 6 (k : Int).toNat = m) then 4 else if ((h ≠ 0 ∧ ¬ (S 2 (k : Int).toNat ≠ -1 ∧ S 1 (S 2 (k : Int).toNat).toNat = 1)) ∨ ((h = 1 ∨ h = 2) ∧ S 2 o.toNat ≠ S 2 (k : Int).toNat)) then 5 else if ((h = 1 ∨ h = 2) ∧ zlead (S 4) (S 5) (k : Int) 12 o = true) then 6 else if 1999 < zlast (zOpS S (k : Int).toNat h (if h = 1 ∨ h = 2 then o else -1) m) then 7 else 0) (S 4 (k : Int).toNat) S (zOpS S (k : Int).toNat h (if h = 1 ∨ h = 2 then o else -1) m))) := by
  have hT : zMc τ S := hS.moved c0
  have hN := hS.N
  have hz : zN S = (S 0 0).toNat := rfl
  have e9k : ((k : Int)).toNat = k := Int.toNat_natCast k
  rw [e9k] at c5
  refine g_aload_n (i := 0) (by decide +kernel) rfl ?_
  refine g_cVV (st := _) (c_Md_tries hn) k_Md_tries l_Md_332 (by decide +kernel) (by omega) rfl rfl rfl rfl (Nat.le_of_ble_eq_true rfl) (by decide) ⟨by decide, by decide⟩ ?_
  rintro υ hυ
  refine g_aload_n (i := 0) (by decide +kernel) rfl ?_
  refine g_getr f_Md_7 (by decide +kernel) (by omega) rfl rfl ?_
  refine g_sipush (a := 146) (by decide +kernel) (by decide) ?_
  refine g_iload_n (i := 1) (by decide +kernel) rfl ?_
  refine g_iadd (by decide +kernel) ?_
  refine g_iload_n (i := 2) (by decide +kernel) rfl ?_
  refine g_iast (j := (146 + k)) (by decide +kernel) (by omega) rfl (by omega) (by omega) (by decide) ?_
  refine g_aload_n (i := 0) (by decide +kernel) rfl ?_
  refine g_getr f_Md_7 (by decide +kernel) (by omega) rfl rfl ?_
  refine g_sipush (a := 158) (by decide +kernel) (by decide) ?_
  refine g_iload_n (i := 1) (by decide +kernel) rfl ?_
  refine g_iadd (by decide +kernel) ?_
  refine g_iload (i := 6) (by decide +kernel) rfl ?_
  refine g_iast (j := (158 + k)) (by decide +kernel) (by omega) rfl (by omega) (by omega) (by decide) ?_
  refine g_aload_n (i := 0) (by decide +kernel) rfl ?_
  refine g_getr f_Md_7 (by decide +kernel) (by omega) rfl rfl ?_
  refine g_sipush (a := 170) (by decide +kernel) (by decide) ?_
  refine g_iload_n (i := 1) (by decide +kernel) rfl ?_
  refine g_iadd (by decide +kernel) ?_
  refine g_iload (i := 4) (by decide +kernel) rfl ?_
  refine g_iast (j := (170 + k)) (by decide +kernel) (by omega) rfl (by omega) (by omega) (by decide) ?_
  obtain ⟨ψ, eψ⟩ : ∃ ψ, ψ = zs (zs (zs υ 190 (146 + k) h) 190 (158 + k) v6) 190 (170 + k) m := ⟨_, rfl⟩
  rw [← eψ]
  have u0 : ∀ a, a ≠ 190 → ψ a = τ a := fun a ha => by rw [eψ, zs_other ha, zs_other ha, zs_other ha, hυ, zrow_ne ha]
  have u1 : ψ 190 = zu (zu (zu (zcb (σ 190) 0 1746 194) (146 + k) h) (158 + k) v6) (170 + k) m := by rw [eψ, zs_row, zs_row, zs_row, hυ, zrow_eq, c0]
  have E2 : zEqv (zOpS S k h v6 m) (zMw (ψ 190) 0) := by
    rw [u1]
    exact zEqv_S hS.b (by omega) (zMw_blk hS.b (c := σ 190) (o := 0) (fun j hj => by unfold zcb; rw [if_neg (by omega)]) hS.1)
  have d1 : ∀ j, j < 194 → ψ 190 (1746 + j) = σ 190 j := fun j hj => by rw [u1, zu_ne (by omega), zu_ne (by omega), zu_ne (by omega)]; unfold zcb; rw [if_pos (by omega), show 0 + (1746 + j - 1746) = j by omega]
  have d2 : ∀ j, 194 ≤ j → j < 1746 → ψ 190 j = σ 190 j := fun j h1 h2 => by rw [u1, zu_ne (by omega), zu_ne (by omega), zu_ne (by omega)]; unfold zcb; rw [if_neg (by omega)]
  obtain ⟨⟨d, r, hv⟩, -⟩ := id hF.1.2.1
  have hp5 : h ≠ 0 → S 2 k ≠ -1 ∧ S 1 (S 2 k).toNat = 1 := fun y => by
    have c5 : ¬ (h ≠ 0 ∧ ¬ (S 2 k ≠ -1 ∧ S 1 (S 2 k).toNat = 1)) := fun y => c5 (Or.inl y)
    omega
  have hb5 : zby h = true → 0 ≤ v6 ∧ v6.toNat < zN S ∧ S 2 v6.toNat = S 2 k := fun y => by
    have b := of_decide_eq_true y
    rw [if_pos b] at e6
    have c5 : ¬ S 2 o.toNat ≠ S 2 k := fun y => c5 (Or.inr ⟨b, y⟩)
    rw [e6]
    exact ⟨by omega, by omega, by omega⟩
  have rs := zrun_S hv (c := k) (h := h) (o := v6) (m := m) (by omega) (by omega) (by omega) hp5 hb5
  obtain ⟨q0, q4, q5, q6⟩ := zOpS_r S k h v6 m
  have n0 : zN (zOpS S k h v6 m) = zN S := by unfold zN; rw [q0 0 (by decide) (by decide) (by decide)]
  have hD : ∀ x, x < zN S → x < 12 ∧ ψ 190 (0 + 146 + x) = zOpS S k h v6 m 4 x ∧ (0 ≤ zOpS S k h v6 m 4 x ∧ zOpS S k h v6 m 4 x ≤ 3) ∧ (zby (zOpS S k h v6 m 4 x) = true → ψ 190 (0 + 158 + x) = zOpS S k h v6 m 5 x ∧ 0 ≤ zOpS S k h v6 m 5 x ∧ (zOpS S k h v6 m 5 x).toNat < zN S) := fun x hx => by
    have f4 := E2.2.1 x (by rw [n0]; exact hx) 4 (by decide) (by decide)
    have f5 := E2.2.1 x (by rw [n0]; exact hx) 5 (by decide) (by decide)
    have kx := hT.rg (show x < 12 by omega)
    refine ⟨by omega, f4, ?_, fun b => ⟨f5, ?_⟩⟩
    · rw [q4]; unfold zu; split <;> omega
    · rw [q4] at b
      rw [q5]
      by_cases z : x = k
      · rw [z, zu_eq] at b ⊢
        exact ⟨(hb5 b).1, (hb5 b).2.1⟩
      · rw [zu_ne z] at b ⊢
        exact ⟨(hv.oth hx b).1, (hv.oth hx b).2.1⟩
  refine g_aload_n (i := 0) (by decide +kernel) rfl ?_
  refine g_iconst (a := 0) (by decide +kernel) ?_
  refine g_iload_n (i := 1) (by decide +kernel) rfl ?_
  refine g_cVI (st := _) (c_Md_isRound (T := zOpS S k h v6 m) (b := 0) (x := k) (D := fun x => x < zN S) hn (Or.inl rfl) hD (by omega)) k_Md_isRound l_Md_292 (by decide +kernel) (by omega) rfl rfl rfl rfl (Nat.le_of_ble_eq_true rfl) (by decide) ⟨by decide, by decide⟩ ?_
  rintro a9 σ9 ⟨ea9, hσ9⟩
  obtain rfl := hσ9.symm
  subst ea9
  refine g_if_eq (off := 18) (tgt := 255) (by decide +kernel) (by decide) zbr (fun h237 => ?_) (fun h237 => ?_)
  · have h237 := zb0.mp h237
    refine g_aload_n (i := 0) (by decide +kernel) rfl ?_
    have F2 : zFin (zOpS S k h v6 m) := zOpS_fin hF.1 (by omega) (by omega) (by omega) hp5 (fun y => ⟨(hb5 y).1, (hb5 y).2.1, (hb5 y).2.2, Bool.eq_false_iff.mpr (fun z => h237 (rs.mpr ⟨y, z⟩))⟩) (fun y => by rw [e6, if_neg (of_decide_eq_false y)])
    have hP : zMc ψ (zOpS S k h v6 m) := F2.mc E2
    have lr := F2.lr
    refine g_cVI (st := _) (c_Md_takesBack hn hP ⟨by omega, by omega⟩) k_Md_takesBack l_Md_335 (by decide +kernel) (by omega) rfl rfl rfl rfl (Nat.le_of_ble_eq_true rfl) (by decide) ⟨by decide, by decide⟩ ?_
    rintro b9 ω ⟨eb9, ρ, hf, hω⟩
    subst eb9
    have p0 : ∀ a, (a < 190 ∨ 195 < a) → ρ a = τ a := fun a ha => by rw [hf a (by omega), u0 a (by omega)]
    have p1 : ρ 190 = ψ 190 := hf 190 (by omega)
    have A1 : zAF σ ρ := a0.of (fun a ha => p0 a (by omega))
    refine g_if_eq (off := 10) (tgt := 269) (by decide +kernel) (by decide) zbr (fun h259 => ?_) (fun h259 => ?_)
    · have h259 := zb0.mp h259
      refine g_aload_n (i := 0) (by decide +kernel) rfl ?_
      rw [if_neg h259] at hω
      subst hω
      refine g_cVV (st := _) (c_Md_stays hn (by rw [p0 189 (by omega), k0]; exact hk)) k_Md_stays l_Md_304 (by decide +kernel) (by omega) rfl rfl rfl rfl (Nat.le_of_ble_eq_true rfl) (by decide) ⟨by decide, by decide⟩ ?_
      rintro φ hφ
      refine g_iload (i := 7) (by decide +kernel) rfl ?_
      refine g_retI (by decide +kernel) rfl (Or.inl rfl) ⟨by decide, by decide⟩ ?_
      have c6 : ¬ ((h = 1 ∨ h = 2) ∧ zlead (S 4) (S 5) (k : Int) 12 o = true) := fun y => h237 (rs.mpr ⟨decide_eq_true y.1, by rw [e6, if_pos y.1]; exact y.2⟩)
      rw [if_neg c1, if_neg c2, if_neg c4, if_neg (show ¬ _ by rw [e9k]; exact c5), if_neg c6, e9k, ← e6]
      refine zAcM.st A1 (by rw [p0 189 (by omega)]; exact s0) (by rw [p0 189 (by omega)]; exact k0) hk hS (fun j hj => by rw [p1]; exact d1 j hj) (fun j h1 h2 => by rw [p1]; exact d2 j h1 h2) F2.b hφ ⟨fun _ _ => rfl, fun _ _ _ => rfl⟩ ?_ (if_neg h259) rfl
      exact zMw_blk F2.b (c := ψ 190) (o := 0) (fun j hj => by rw [hφ.2.2.1 _ (by omega), p1]) E2
    · have h259 := zb1.mp h259
      refine g_aload_n (i := 0) (by decide +kernel) rfl ?_
      refine g_bipush (a := 7) (by decide +kernel) (by decide) ?_
      refine g_cVI (st := _) (c_Md_refuse hn) k_Md_refuse l_Md_295 (by decide +kernel) (by omega) rfl rfl rfl rfl (Nat.le_of_ble_eq_true rfl) (by decide) ⟨by decide, by decide⟩ ?_
      rintro a9 σ9 ⟨ea9, hσ9⟩
      obtain rfl := ea9.symm
      subst hσ9
      refine g_retI (by decide +kernel) rfl (Or.inl rfl) ⟨by decide, by decide⟩ ?_
      have c6 : ¬ ((h = 1 ∨ h = 2) ∧ zlead (S 4) (S 5) (k : Int) 12 o = true) := fun y => h237 (rs.mpr ⟨decide_eq_true y.1, by rw [e6, if_pos y.1]; exact y.2⟩)
      rw [if_pos h259] at hω
      subst hω
      refine zAcM.no (A1.of (fun a ha => zrow_ne (by omega))) (by rw [zrow_ne (by decide), p0 189 (by omega)]; exact k0) ?_ (fun j h1 h2 => ?_) (by rw [if_neg c1, if_neg c2, if_neg c4, if_neg (show ¬ _ by rw [e9k]; exact c5), if_neg c6, e9k, ← e6, if_pos h259]) (by decide)
      · rw [zrow_eq]
        exact zMw_blk hS.b (c := σ 190) (o := 0) (fun j hj => by unfold zcb; rw [if_pos (by omega), show 1746 + (0 + j - 0) = 1746 + j by omega, d1 j hj, Nat.zero_add]) hS.1
      · rw [zrow_eq]; unfold zcb; rw [if_neg (by omega)]; exact d2 j h1 h2
  · have h237 := zb1.mp h237
    refine g_aload_n (i := 0) (by decide +kernel) rfl ?_
    refine g_sipush (a := 1746) (by decide +kernel) (by decide) ?_
    refine g_iconst (a := 0) (by decide +kernel) ?_
    refine g_cVV (st := _) (c_Md_copy (f := 1746) (t := 0) hn (by omega) (by omega) (by omega)) k_Md_copy l_Md_159 (by decide +kernel) (by omega) rfl rfl rfl rfl (Nat.le_of_ble_eq_true rfl) (by decide) ⟨by decide, by decide⟩ ?_
    rintro ω hω
    refine g_aload_n (i := 0) (by decide +kernel) rfl ?_
    refine g_bipush (a := 6) (by decide +kernel) (by decide) ?_
    refine g_cVI (st := _) (c_Md_refuse hn) k_Md_refuse l_Md_295 (by decide +kernel) (by omega) rfl rfl rfl rfl (Nat.le_of_ble_eq_true rfl) (by decide) ⟨by decide, by decide⟩ ?_
    rintro a9 σ9 ⟨ea9, hσ9⟩
    obtain rfl := ea9.symm
    subst hσ9
    refine g_retI (by decide +kernel) rfl (Or.inl rfl) ⟨by decide, by decide⟩ ?_
    have h237 := rs.mp h237
    subst hω
    refine zAcM.no (a0.of (fun a ha => by rw [zrow_ne (by omega), u0 a (by omega)])) (by rw [zrow_ne (by decide), u0 189 (by decide)]; exact k0) ?_ (fun j h1 h2 => ?_) (by
      have b := of_decide_eq_true h237.1
      have z := h237.2
      rw [e6, if_pos b] at z
      rw [if_neg c1, if_neg c2, if_neg c4, if_neg (show ¬ _ by rw [e9k]; exact c5), if_pos ⟨b, z⟩]) (by decide)
    · rw [zrow_eq]
      exact zMw_blk hS.b (c := σ 190) (o := 0) (fun j hj => by unfold zcb; rw [if_pos (by omega), show 1746 + (0 + j - 0) = 1746 + j by omega, d1 j hj, Nat.zero_add]) hS.1
    · rw [zrow_eq]; unfold zcb; rw [if_neg (by omega)]; exact d2 j h1 h2
theorem c_Md_start {G : zG} {n : Nat} {σ : zSt} {c h o m : Int} {S : zSt} (hn : 220 ≤ n) (hF : zFine S) (hS : zMc σ S) (hk : 0 ≤ σ 189 1 ∧ σ 189 1 ≤ 8) (z1 : zr c) (z2 : zr h) (z3 : zr o) (z4 : zr m) : Gm G y_Md_start m_Md_start 6 0 0 [vr G 189, vi c, vi h, vi o, vi m] n SH σ (zI n SH (fun a σ' => zAcM σ σ' a (if (h < 0 ∨ 3 < h ∨ m < 0 ∨ (h = 3 ∧ 3 < m) ∨ 999 < m) then 1 else if (¬ (0 ≤ c ∧ c < S 0 0) ∨ ((h = 1 ∨ h = 2) ∧ ¬ (0 ≤ o ∧ o < S 0 0))) then 2 else if (S 4 c.toNat = h ∧ S 5 c.toNat = (if h = 1 ∨ h = 2 then o else -1) ∧ S 6 c.toNat = m) then 4 else if ((h ≠ 0 ∧ ¬ (S 2 c.toNat ≠ -1 ∧ S 1 (S 2 c.toNat).toNat = 1)) ∨ ((h = 1 ∨ h = 2) ∧ S 2 o.toNat ≠ S 2 c.toNat)) then 5 else if ((h = 1 ∨ h = 2) ∧ zlead (S 4) (S 5) c 12 o = true) then 6 else if 1999 < zlast (zOpS S c.toNat h (if h = 1 ∨ h = 2 then o else -1) m) then 7 else 0) (S 4 c.toNat) S (zOpS S c.toNat h (if h = 1 ∨ h = 2 then o else -1) m))) := by
  refine g_enter (L := [(0, _), (1, _), (2, _), (3, _), (4, _)]) (by decide) rfl rfl rfl (Nat.le_of_ble_eq_true rfl) (fun X => ?_)
  have e0 := hS.n
  have e8 := hS.p
  have hN := hS.N
  have hz : zN S = (S 0 0).toNat := rfl
  obtain ⟨z1a, z1b⟩ := id z1
  obtain ⟨z2a, z2b⟩ := id z2
  obtain ⟨z3a, z3b⟩ := id z3
  obtain ⟨z4a, z4b⟩ := id z4
  refine g_aload_n (i := 0) (by decide +kernel) rfl ?_
  refine g_iconst (a := 0) (by decide +kernel) ?_
  refine g_puti f_Md_142 (by decide +kernel) (by omega) rfl rfl ?_
  refine g_aload_n (i := 0) (by decide +kernel) rfl ?_
  refine g_iconst (a := 0) (by decide +kernel) ?_
  refine g_puti f_Md_145 (by decide +kernel) (by omega) rfl rfl ?_
  obtain ⟨τ, eτ⟩ : ∃ τ, τ = zs (zs σ 189 3 0) 189 2 0 := ⟨_, rfl⟩
  rw [← eτ]
  have a0 : zAF σ τ := by rw [eτ]; exact ((zAF.rf σ).put (by decide)).put (by decide)
  have s0 : τ 189 2 = 0 := by rw [eτ, zs_eq]
  have c0 : τ 190 = σ 190 := by rw [eτ, zs_other (by decide), zs_other (by decide)]
  have k0 : τ 189 1 = σ 189 1 := by rw [eτ, zs_ne (by decide), zs_ne (by decide)]
  have hT : zMc τ S := hS.moved c0
  have et := hT.n
  have ep := hT.p
  have J192 : ∀ v5 v6 : Int, zHid (¬ (h < 0 ∨ 3 < h ∨ m < 0 ∨ (h = 3 ∧ 3 < m) ∨ 999 < m)) → zHid (¬ (¬ (0 ≤ c ∧ c < S 0 0) ∨ ((h = 1 ∨ h = 2) ∧ ¬ (0 ≤ o ∧ o < S 0 0)))) → zHid (¬ (S 4 c.toNat = h ∧ S 5 c.toNat = (if h = 1 ∨ h = 2 then o else -1) ∧ S 6 c.toNat = m)) → zHid (¬ ((h ≠ 0 ∧ ¬ (S 2 c.toNat ≠ -1 ∧ S 1 (S 2 c.toNat).toNat = 1)) ∨ ((h = 1 ∨ h = 2) ∧ S 2 o.toNat ≠ S 2 c.toNat))) → v6 = (if h = 1 ∨ h = 2 then o else -1) → Go G X m_Md_start (6, 0, 0, 0, 0) n SH τ 192 [(0, vr G 189), (1, vi c), (2, vi h), (3, vi o), (4, vi m), (5, vi v5), (6, vi v6), (7, vi (S 4 c.toNat))] [] (zI n SH (fun a σ' => zAcM σ σ' a (if (h < 0 ∨ 3 < h ∨ m < 0 ∨ (h = 3 ∧ 3 < m) ∨ 999 < m) then 1 else if (¬ (0 ≤ c ∧ c < S 0 0) ∨ ((h = 1 ∨ h = 2) ∧ ¬ (0 ≤ o ∧ o < S 0 0))) then 2 else if (S 4 c.toNat = h ∧ S 5 c.toNat = (if h = 1 ∨ h = 2 then o else -1) ∧ S 6 c.toNat = m) then 4 else if ((h ≠ 0 ∧ ¬ (S 2 c.toNat ≠ -1 ∧ S 1 (S 2 c.toNat).toNat = 1)) ∨ ((h = 1 ∨ h = 2) ∧ S 2 o.toNat ≠ S 2 c.toNat)) then 5 else if ((h = 1 ∨ h = 2) ∧ zlead (S 4) (S 5) c 12 o = true) then 6 else if 1999 < zlast (zOpS S c.toNat h (if h = 1 ∨ h = 2 then o else -1) m) then 7 else 0) (S 4 c.toNat) S (zOpS S c.toNat h (if h = 1 ∨ h = 2 then o else -1) m))) := by
    intro v5 v6 c1 c2 c4 c5 e6
    have r1 : 0 ≤ h ∧ h ≤ 3 ∧ 0 ≤ m ∧ m ≤ 999 := by have c1 : ¬ (h < 0 ∨ 3 < h ∨ m < 0 ∨ (h = 3 ∧ 3 < m) ∨ 999 < m) := c1; omega
    have r2 : 0 ≤ c ∧ c < S 0 0 := by have c2 : ¬ (¬ (0 ≤ c ∧ c < S 0 0) ∨ ((h = 1 ∨ h = 2) ∧ ¬ (0 ≤ o ∧ o < S 0 0))) := c2; omega
    have r3 : (h = 1 ∨ h = 2) → 0 ≤ o ∧ o < S 0 0 := by have c2 : ¬ (¬ (0 ≤ c ∧ c < S 0 0) ∨ ((h = 1 ∨ h = 2) ∧ ¬ (0 ≤ o ∧ o < S 0 0))) := c2; omega
    obtain ⟨k, rfl⟩ := Int.eq_ofNat_of_zero_le r2.1
    exact t_Md_start hn hF hS hk (by omega) ⟨r1.1, r1.2.1⟩ ⟨r1.2.2.1, r1.2.2.2⟩ r3 c1 c2 c4 c5 e6 a0 s0 c0 k0
  have J168 : ∀ v5 v6 : Int, ((v5 = 1 ∧ (h = 1 ∨ h = 2)) ∨ (v5 = 0 ∧ ¬ (h = 1 ∨ h = 2))) → zHid (¬ (h < 0 ∨ 3 < h ∨ m < 0 ∨ (h = 3 ∧ 3 < m) ∨ 999 < m)) → zHid (¬ (¬ (0 ≤ c ∧ c < S 0 0) ∨ ((h = 1 ∨ h = 2) ∧ ¬ (0 ≤ o ∧ o < S 0 0)))) → zHid (¬ (S 4 c.toNat = h ∧ S 5 c.toNat = (if h = 1 ∨ h = 2 then o else -1) ∧ S 6 c.toNat = m)) → v6 = (if h = 1 ∨ h = 2 then o else -1) → zHid (¬ (h ≠ 0 ∧ ¬ (S 2 c.toNat ≠ -1 ∧ S 1 (S 2 c.toNat).toNat = 1))) → Go G X m_Md_start (6, 0, 0, 0, 0) n SH τ 168 [(0, vr G 189), (1, vi c), (2, vi h), (3, vi o), (4, vi m), (5, vi v5), (6, vi v6), (7, vi (S 4 c.toNat))] [] (zI n SH (fun a σ' => zAcM σ σ' a (if (h < 0 ∨ 3 < h ∨ m < 0 ∨ (h = 3 ∧ 3 < m) ∨ 999 < m) then 1 else if (¬ (0 ≤ c ∧ c < S 0 0) ∨ ((h = 1 ∨ h = 2) ∧ ¬ (0 ≤ o ∧ o < S 0 0))) then 2 else if (S 4 c.toNat = h ∧ S 5 c.toNat = (if h = 1 ∨ h = 2 then o else -1) ∧ S 6 c.toNat = m) then 4 else if ((h ≠ 0 ∧ ¬ (S 2 c.toNat ≠ -1 ∧ S 1 (S 2 c.toNat).toNat = 1)) ∨ ((h = 1 ∨ h = 2) ∧ S 2 o.toNat ≠ S 2 c.toNat)) then 5 else if ((h = 1 ∨ h = 2) ∧ zlead (S 4) (S 5) c 12 o = true) then 6 else if 1999 < zlast (zOpS S c.toNat h (if h = 1 ∨ h = 2 then o else -1) m) then 7 else 0) (S 4 c.toNat) S (zOpS S c.toNat h (if h = 1 ∨ h = 2 then o else -1) m))) := by
    intro v5 v6 hv5 c1 c2 c4 e6 c5
    have r1 : 0 ≤ h ∧ h ≤ 3 ∧ 0 ≤ m ∧ m ≤ 999 := by have c1 : ¬ (h < 0 ∨ 3 < h ∨ m < 0 ∨ (h = 3 ∧ 3 < m) ∨ 999 < m) := c1; omega
    have r2 : 0 ≤ c ∧ c < S 0 0 := by have c2 : ¬ (¬ (0 ≤ c ∧ c < S 0 0) ∨ ((h = 1 ∨ h = 2) ∧ ¬ (0 ≤ o ∧ o < S 0 0))) := c2; omega
    have r3 : (h = 1 ∨ h = 2) → 0 ≤ o ∧ o < S 0 0 := by have c2 : ¬ (¬ (0 ≤ c ∧ c < S 0 0) ∨ ((h = 1 ∨ h = 2) ∧ ¬ (0 ≤ o ∧ o < S 0 0))) := c2; omega
    have ck : c.toNat < zN S := by omega
    have kc := hT.rg (show c.toNat < 12 by omega)
    have k2 := hT.ar ck
    have k4 := hT.hw ck
    have k5 := hT.ot ck
    have k6 := hT.mu ck
    refine g_iload (i := 5) (by decide +kernel) rfl ?_
    refine g_if_eq (off := 22) (tgt := 192) (by decide +kernel) (by decide) ⟨by omega, by omega⟩ (fun h170 => ?_) (fun h170 => ?_)
    · exact J192 _ _ c1 c2 c4 (fun y => by
        rcases y with y | y
        · exact c5 y
        · omega) e6
    · refine g_aload_n (i := 0) (by decide +kernel) rfl ?_
      refine g_iload_n (i := 3) (by decide +kernel) rfl ?_
      obtain ⟨q, eq⟩ := Int.eq_ofNat_of_zero_le (show 0 ≤ o by omega)
      have e9q : o.toNat = q := by omega
      have qN : q < zN S := by omega
      have ip := c_Md_around (G := G) (n := n) (σ := τ) (k := q) hn (by omega)
      rw [hT.ar qN, ← eq, ← e9q] at ip
      have rq := (hT.rg (show o.toNat < 12 by omega)).2.1
      refine g_cVI (st := _) (ip) k_Md_around l_Md_169 (by decide +kernel) (by omega) rfl rfl rfl rfl (Nat.le_of_ble_eq_true rfl) (by decide) ⟨by decide, by decide⟩ ?_
      rintro x9 σ9 ⟨ex9, hσ9⟩
      obtain rfl := hσ9.symm
      refine g_aload_n (i := 0) (by decide +kernel) rfl ?_
      refine g_iload_n (i := 1) (by decide +kernel) rfl ?_
      obtain ⟨q, eq⟩ := Int.eq_ofNat_of_zero_le (show 0 ≤ c by omega)
      have e9q : c.toNat = q := by omega
      have qN : q < zN S := by omega
      have ip := c_Md_around (G := G) (n := n) (σ := τ) (k := q) hn (by omega)
      rw [hT.ar qN, ← eq, ← e9q] at ip
      have rq := (hT.rg (show c.toNat < 12 by omega)).2.1
      refine g_cVI (st := _) (ip) k_Md_around l_Md_169 (by decide +kernel) (by omega) rfl rfl rfl rfl (Nat.le_of_ble_eq_true rfl) (by decide) ⟨by decide, by decide⟩ ?_
      rintro y9 σ9 ⟨ey9, hσ9⟩
      obtain rfl := hσ9.symm
      refine g_icmp_eq (off := 9) (tgt := 192) (by decide +kernel) (by decide) ⟨by omega, by omega⟩ ⟨by omega, by omega⟩ (fun h183 => ?_) (fun h183 => ?_)
      · exact J192 _ _ c1 c2 c4 (fun y => by
          rcases y with y | y
          · exact c5 y
          · omega) e6
      · have c5x : ((h ≠ 0 ∧ ¬ (S 2 c.toNat ≠ -1 ∧ S 1 (S 2 c.toNat).toNat = 1)) ∨ ((h = 1 ∨ h = 2) ∧ S 2 o.toNat ≠ S 2 c.toNat)) := by
          first
            | exact Or.inl ⟨by omega, h165⟩
            | exact Or.inr ⟨by omega, by omega⟩
        refine g_aload_n (i := 0) (by decide +kernel) rfl ?_
        refine g_iconst (a := 5) (by decide +kernel) ?_
        refine g_cVI (st := _) (c_Md_refuse hn) k_Md_refuse l_Md_295 (by decide +kernel) (by omega) rfl rfl rfl rfl (Nat.le_of_ble_eq_true rfl) (by decide) ⟨by decide, by decide⟩ ?_
        rintro a9 σ9 ⟨ea9, hσ9⟩
        obtain rfl := ea9.symm
        subst hσ9
        refine g_retI (by decide +kernel) rfl (Or.inl rfl) ⟨by decide, by decide⟩ ?_
        exact zAcM.no0 a0 k0 c0 hS (by rw [if_neg c1, if_neg c2, if_neg c4, if_pos c5x]) (by decide)
  have J156 : ∀ v5 v6 : Int, ((v5 = 1 ∧ (h = 1 ∨ h = 2)) ∨ (v5 = 0 ∧ ¬ (h = 1 ∨ h = 2))) → zHid (¬ (h < 0 ∨ 3 < h ∨ m < 0 ∨ (h = 3 ∧ 3 < m) ∨ 999 < m)) → zHid (¬ (¬ (0 ≤ c ∧ c < S 0 0) ∨ ((h = 1 ∨ h = 2) ∧ ¬ (0 ≤ o ∧ o < S 0 0)))) → zHid (¬ (S 4 c.toNat = h ∧ S 5 c.toNat = (if h = 1 ∨ h = 2 then o else -1) ∧ S 6 c.toNat = m)) → v6 = (if h = 1 ∨ h = 2 then o else -1) → Go G X m_Md_start (6, 0, 0, 0, 0) n SH τ 156 [(0, vr G 189), (1, vi c), (2, vi h), (3, vi o), (4, vi m), (5, vi v5), (6, vi v6), (7, vi (S 4 c.toNat))] [] (zI n SH (fun a σ' => zAcM σ σ' a (if (h < 0 ∨ 3 < h ∨ m < 0 ∨ (h = 3 ∧ 3 < m) ∨ 999 < m) then 1 else if (¬ (0 ≤ c ∧ c < S 0 0) ∨ ((h = 1 ∨ h = 2) ∧ ¬ (0 ≤ o ∧ o < S 0 0))) then 2 else if (S 4 c.toNat = h ∧ S 5 c.toNat = (if h = 1 ∨ h = 2 then o else -1) ∧ S 6 c.toNat = m) then 4 else if ((h ≠ 0 ∧ ¬ (S 2 c.toNat ≠ -1 ∧ S 1 (S 2 c.toNat).toNat = 1)) ∨ ((h = 1 ∨ h = 2) ∧ S 2 o.toNat ≠ S 2 c.toNat)) then 5 else if ((h = 1 ∨ h = 2) ∧ zlead (S 4) (S 5) c 12 o = true) then 6 else if 1999 < zlast (zOpS S c.toNat h (if h = 1 ∨ h = 2 then o else -1) m) then 7 else 0) (S 4 c.toNat) S (zOpS S c.toNat h (if h = 1 ∨ h = 2 then o else -1) m))) := by
    intro v5 v6 hv5 c1 c2 c4 e6
    have r1 : 0 ≤ h ∧ h ≤ 3 ∧ 0 ≤ m ∧ m ≤ 999 := by have c1 : ¬ (h < 0 ∨ 3 < h ∨ m < 0 ∨ (h = 3 ∧ 3 < m) ∨ 999 < m) := c1; omega
    have r2 : 0 ≤ c ∧ c < S 0 0 := by have c2 : ¬ (¬ (0 ≤ c ∧ c < S 0 0) ∨ ((h = 1 ∨ h = 2) ∧ ¬ (0 ≤ o ∧ o < S 0 0))) := c2; omega
    have r3 : (h = 1 ∨ h = 2) → 0 ≤ o ∧ o < S 0 0 := by have c2 : ¬ (¬ (0 ≤ c ∧ c < S 0 0) ∨ ((h = 1 ∨ h = 2) ∧ ¬ (0 ≤ o ∧ o < S 0 0))) := c2; omega
    have ck : c.toNat < zN S := by omega
    have kc := hT.rg (show c.toNat < 12 by omega)
    have k2 := hT.ar ck
    have k4 := hT.hw ck
    have k5 := hT.ot ck
    have k6 := hT.mu ck
    refine g_iload_n (i := 2) (by decide +kernel) rfl ?_
    refine g_if_eq (off := 11) (tgt := 168) (by decide +kernel) (by decide) ⟨by omega, by omega⟩ (fun h157 => ?_) (fun h157 => ?_)
    · first
        | exact J168 _ _ hv5 c1 c2 c4 e6 (fun y => y.1 (by omega))
        | exact J168 _ _ hv5 c1 c2 c4 e6 (fun y => y.2 h165)
    · refine g_aload_n (i := 0) (by decide +kernel) rfl ?_
      refine g_iload_n (i := 1) (by decide +kernel) rfl ?_
      obtain ⟨k, ek⟩ := Int.eq_ofNat_of_zero_le (show 0 ≤ c by omega)
      have e9k : c.toNat = k := by omega
      have ip := c_Md_isInHeap (G := G) (n := n) (σ := τ) (k := k) hn hT (by omega)
      rw [← ek, ← e9k] at ip
      refine g_cVI (st := _) (ip) k_Md_isInHeap l_Md_341 (by decide +kernel) (by omega) rfl rfl rfl rfl (Nat.le_of_ble_eq_true rfl) (by decide) ⟨by decide, by decide⟩ ?_
      rintro a9 σ9 ⟨ea9, hσ9⟩
      obtain rfl := hσ9.symm
      subst ea9
      refine g_if_eq (off := 21) (tgt := 186) (by decide +kernel) (by decide) zbr (fun h165 => ?_) (fun h165 => ?_)
      · have h165 := zb0.mp h165
        have c5x : ((h ≠ 0 ∧ ¬ (S 2 c.toNat ≠ -1 ∧ S 1 (S 2 c.toNat).toNat = 1)) ∨ ((h = 1 ∨ h = 2) ∧ S 2 o.toNat ≠ S 2 c.toNat)) := by
          first
            | exact Or.inl ⟨by omega, h165⟩
            | exact Or.inr ⟨by omega, by omega⟩
        refine g_aload_n (i := 0) (by decide +kernel) rfl ?_
        refine g_iconst (a := 5) (by decide +kernel) ?_
        refine g_cVI (st := _) (c_Md_refuse hn) k_Md_refuse l_Md_295 (by decide +kernel) (by omega) rfl rfl rfl rfl (Nat.le_of_ble_eq_true rfl) (by decide) ⟨by decide, by decide⟩ ?_
        rintro a9 σ9 ⟨ea9, hσ9⟩
        obtain rfl := ea9.symm
        subst hσ9
        refine g_retI (by decide +kernel) rfl (Or.inl rfl) ⟨by decide, by decide⟩ ?_
        exact zAcM.no0 a0 k0 c0 hS (by rw [if_neg c1, if_neg c2, if_neg c4, if_pos c5x]) (by decide)
      · have h165 := zb1.mp h165
        first
          | exact J168 _ _ hv5 c1 c2 c4 e6 (fun y => y.1 (by omega))
          | exact J168 _ _ hv5 c1 c2 c4 e6 (fun y => y.2 h165)
  have J100 : ∀ v5 v6 : Int, ((v5 = 1 ∧ (h = 1 ∨ h = 2)) ∨ (v5 = 0 ∧ ¬ (h = 1 ∨ h = 2))) → zHid (¬ (h < 0 ∨ 3 < h ∨ m < 0 ∨ (h = 3 ∧ 3 < m) ∨ 999 < m)) → zHid (¬ (¬ (0 ≤ c ∧ c < S 0 0) ∨ ((h = 1 ∨ h = 2) ∧ ¬ (0 ≤ o ∧ o < S 0 0)))) → v6 = (if h = 1 ∨ h = 2 then o else -1) → Go G X m_Md_start (6, 0, 0, 0, 0) n SH τ 100 [(0, vr G 189), (1, vi c), (2, vi h), (3, vi o), (4, vi m), (5, vi v5)] [vi v6] (zI n SH (fun a σ' => zAcM σ σ' a (if (h < 0 ∨ 3 < h ∨ m < 0 ∨ (h = 3 ∧ 3 < m) ∨ 999 < m) then 1 else if (¬ (0 ≤ c ∧ c < S 0 0) ∨ ((h = 1 ∨ h = 2) ∧ ¬ (0 ≤ o ∧ o < S 0 0))) then 2 else if (S 4 c.toNat = h ∧ S 5 c.toNat = (if h = 1 ∨ h = 2 then o else -1) ∧ S 6 c.toNat = m) then 4 else if ((h ≠ 0 ∧ ¬ (S 2 c.toNat ≠ -1 ∧ S 1 (S 2 c.toNat).toNat = 1)) ∨ ((h = 1 ∨ h = 2) ∧ S 2 o.toNat ≠ S 2 c.toNat)) then 5 else if ((h = 1 ∨ h = 2) ∧ zlead (S 4) (S 5) c 12 o = true) then 6 else if 1999 < zlast (zOpS S c.toNat h (if h = 1 ∨ h = 2 then o else -1) m) then 7 else 0) (S 4 c.toNat) S (zOpS S c.toNat h (if h = 1 ∨ h = 2 then o else -1) m))) := by
    intro v5 v6 hv5 c1 c2 e6
    have r1 : 0 ≤ h ∧ h ≤ 3 ∧ 0 ≤ m ∧ m ≤ 999 := by have c1 : ¬ (h < 0 ∨ 3 < h ∨ m < 0 ∨ (h = 3 ∧ 3 < m) ∨ 999 < m) := c1; omega
    have r2 : 0 ≤ c ∧ c < S 0 0 := by have c2 : ¬ (¬ (0 ≤ c ∧ c < S 0 0) ∨ ((h = 1 ∨ h = 2) ∧ ¬ (0 ≤ o ∧ o < S 0 0))) := c2; omega
    have r3 : (h = 1 ∨ h = 2) → 0 ≤ o ∧ o < S 0 0 := by have c2 : ¬ (¬ (0 ≤ c ∧ c < S 0 0) ∨ ((h = 1 ∨ h = 2) ∧ ¬ (0 ≤ o ∧ o < S 0 0))) := c2; omega
    have ck : c.toNat < zN S := by omega
    have kc := hT.rg (show c.toNat < 12 by omega)
    have k2 := hT.ar ck
    have k4 := hT.hw ck
    have k5 := hT.ot ck
    have k6 := hT.mu ck
    have r6 : -1 ≤ v6 ∧ v6 ≤ 11 := by rw [e6]; split <;> omega
    refine g_istore (i := 6) (L' := [(0, _), (1, _), (2, _), (3, _), (4, _), (5, _), (6, _)]) (by decide +kernel) rfl rfl ?_
    refine g_aload_n (i := 0) (by decide +kernel) rfl ?_
    refine g_getr f_Md_7 (by decide +kernel) (by omega) rfl rfl ?_
    refine g_sipush (a := 146) (by decide +kernel) (by decide) ?_
    refine g_iload_n (i := 1) (by decide +kernel) rfl ?_
    refine g_iadd (by decide +kernel) ?_
    refine g_iald (j := (146 + c.toNat)) (by decide +kernel) (by omega) rfl (by omega) (by omega) (by decide) ?_
    rw [k4]
    refine g_istore (i := 7) (L' := [(0, _), (1, _), (2, _), (3, _), (4, _), (5, _), (6, _), (7, _)]) (by decide +kernel) rfl rfl ?_
    refine g_iload (i := 7) (by decide +kernel) rfl ?_
    refine g_iload_n (i := 2) (by decide +kernel) rfl ?_
    refine g_icmp_ne (off := 39) (tgt := 156) (by decide +kernel) (by decide) ⟨by omega, by omega⟩ ⟨by omega, by omega⟩ (fun h117 => ?_) (fun h117 => ?_)
    · exact J156 _ _ hv5 c1 c2 (show ¬ (S 4 c.toNat = h ∧ S 5 c.toNat = (if h = 1 ∨ h = 2 then o else -1) ∧ S 6 c.toNat = m) from fun y => by omega) e6
    · refine g_aload_n (i := 0) (by decide +kernel) rfl ?_
      refine g_getr f_Md_7 (by decide +kernel) (by omega) rfl rfl ?_
      refine g_sipush (a := 158) (by decide +kernel) (by decide) ?_
      refine g_iload_n (i := 1) (by decide +kernel) rfl ?_
      refine g_iadd (by decide +kernel) ?_
      refine g_iald (j := (158 + c.toNat)) (by decide +kernel) (by omega) rfl (by omega) (by omega) (by decide) ?_
      refine g_iload (i := 6) (by decide +kernel) rfl ?_
      refine g_icmp_ne (off := 24) (tgt := 156) (by decide +kernel) (by decide) ⟨by omega, by omega⟩ ⟨by omega, by omega⟩ (fun h132 => ?_) (fun h132 => ?_)
      · exact J156 _ _ hv5 c1 c2 (show ¬ (S 4 c.toNat = h ∧ S 5 c.toNat = (if h = 1 ∨ h = 2 then o else -1) ∧ S 6 c.toNat = m) from fun y => by omega) e6
      · refine g_aload_n (i := 0) (by decide +kernel) rfl ?_
        refine g_getr f_Md_7 (by decide +kernel) (by omega) rfl rfl ?_
        refine g_sipush (a := 170) (by decide +kernel) (by decide) ?_
        refine g_iload_n (i := 1) (by decide +kernel) rfl ?_
        refine g_iadd (by decide +kernel) ?_
        refine g_iald (j := (170 + c.toNat)) (by decide +kernel) (by omega) rfl (by omega) (by omega) (by decide) ?_
        refine g_iload (i := 4) (by decide +kernel) rfl ?_
        refine g_icmp_ne (off := 9) (tgt := 156) (by decide +kernel) (by decide) ⟨by omega, by omega⟩ ⟨by omega, by omega⟩ (fun h147 => ?_) (fun h147 => ?_)
        · exact J156 _ _ hv5 c1 c2 (show ¬ (S 4 c.toNat = h ∧ S 5 c.toNat = (if h = 1 ∨ h = 2 then o else -1) ∧ S 6 c.toNat = m) from fun y => by omega) e6
        · refine g_aload_n (i := 0) (by decide +kernel) rfl ?_
          refine g_iconst (a := 4) (by decide +kernel) ?_
          refine g_cVI (st := _) (c_Md_refuse hn) k_Md_refuse l_Md_295 (by decide +kernel) (by omega) rfl rfl rfl rfl (Nat.le_of_ble_eq_true rfl) (by decide) ⟨by decide, by decide⟩ ?_
          rintro a9 σ9 ⟨ea9, hσ9⟩
          obtain rfl := ea9.symm
          subst hσ9
          refine g_retI (by decide +kernel) rfl (Or.inl rfl) ⟨by decide, by decide⟩ ?_
          exact zAcM.no0 a0 k0 c0 hS (by rw [if_neg c1, if_neg c2, if_pos (by omega)]) (by decide)
  have J90 : ∀ v5 : Int, ((v5 = 1 ∧ (h = 1 ∨ h = 2)) ∨ (v5 = 0 ∧ ¬ (h = 1 ∨ h = 2))) → zHid (¬ (h < 0 ∨ 3 < h ∨ m < 0 ∨ (h = 3 ∧ 3 < m) ∨ 999 < m)) → zHid (¬ (¬ (0 ≤ c ∧ c < S 0 0) ∨ ((h = 1 ∨ h = 2) ∧ ¬ (0 ≤ o ∧ o < S 0 0)))) → Go G X m_Md_start (6, 0, 0, 0, 0) n SH τ 90 [(0, vr G 189), (1, vi c), (2, vi h), (3, vi o), (4, vi m), (5, vi v5)] [] (zI n SH (fun a σ' => zAcM σ σ' a (if (h < 0 ∨ 3 < h ∨ m < 0 ∨ (h = 3 ∧ 3 < m) ∨ 999 < m) then 1 else if (¬ (0 ≤ c ∧ c < S 0 0) ∨ ((h = 1 ∨ h = 2) ∧ ¬ (0 ≤ o ∧ o < S 0 0))) then 2 else if (S 4 c.toNat = h ∧ S 5 c.toNat = (if h = 1 ∨ h = 2 then o else -1) ∧ S 6 c.toNat = m) then 4 else if ((h ≠ 0 ∧ ¬ (S 2 c.toNat ≠ -1 ∧ S 1 (S 2 c.toNat).toNat = 1)) ∨ ((h = 1 ∨ h = 2) ∧ S 2 o.toNat ≠ S 2 c.toNat)) then 5 else if ((h = 1 ∨ h = 2) ∧ zlead (S 4) (S 5) c 12 o = true) then 6 else if 1999 < zlast (zOpS S c.toNat h (if h = 1 ∨ h = 2 then o else -1) m) then 7 else 0) (S 4 c.toNat) S (zOpS S c.toNat h (if h = 1 ∨ h = 2 then o else -1) m))) := by
    intro v5 hv5 c1 c2
    have r1 : 0 ≤ h ∧ h ≤ 3 ∧ 0 ≤ m ∧ m ≤ 999 := by have c1 : ¬ (h < 0 ∨ 3 < h ∨ m < 0 ∨ (h = 3 ∧ 3 < m) ∨ 999 < m) := c1; omega
    have r2 : 0 ≤ c ∧ c < S 0 0 := by have c2 : ¬ (¬ (0 ≤ c ∧ c < S 0 0) ∨ ((h = 1 ∨ h = 2) ∧ ¬ (0 ≤ o ∧ o < S 0 0))) := c2; omega
    have r3 : (h = 1 ∨ h = 2) → 0 ≤ o ∧ o < S 0 0 := by have c2 : ¬ (¬ (0 ≤ c ∧ c < S 0 0) ∨ ((h = 1 ∨ h = 2) ∧ ¬ (0 ≤ o ∧ o < S 0 0))) := c2; omega
    
    refine g_iload (i := 5) (by decide +kernel) rfl ?_
    refine g_if_eq (off := 7) (tgt := 99) (by decide +kernel) (by decide) ⟨by omega, by omega⟩ (fun h92 => ?_) (fun h92 => ?_)
    · refine g_iconst (a := -1) (by decide +kernel) ?_
      first
        | exact J100 _ _ hv5 c1 c2 (by rw [if_pos (by omega)])
        | exact J100 _ _ hv5 c1 c2 (by rw [if_neg (by omega)])
    · refine g_iload_n (i := 3) (by decide +kernel) rfl ?_
      refine g_goto (off := 4) (tgt := 100) (by decide +kernel) (by decide) ?_
      first
        | exact J100 _ _ hv5 c1 c2 (by rw [if_pos (by omega)])
        | exact J100 _ _ hv5 c1 c2 (by rw [if_neg (by omega)])
  have J61 : ∀ v5 : Int, ((v5 = 1 ∧ (h = 1 ∨ h = 2)) ∨ (v5 = 0 ∧ ¬ (h = 1 ∨ h = 2))) → zHid (¬ (h < 0 ∨ 3 < h ∨ m < 0 ∨ (h = 3 ∧ 3 < m) ∨ 999 < m)) → Go G X m_Md_start (6, 0, 0, 0, 0) n SH τ 61 [(0, vr G 189), (1, vi c), (2, vi h), (3, vi o), (4, vi m)] [vi v5] (zI n SH (fun a σ' => zAcM σ σ' a (if (h < 0 ∨ 3 < h ∨ m < 0 ∨ (h = 3 ∧ 3 < m) ∨ 999 < m) then 1 else if (¬ (0 ≤ c ∧ c < S 0 0) ∨ ((h = 1 ∨ h = 2) ∧ ¬ (0 ≤ o ∧ o < S 0 0))) then 2 else if (S 4 c.toNat = h ∧ S 5 c.toNat = (if h = 1 ∨ h = 2 then o else -1) ∧ S 6 c.toNat = m) then 4 else if ((h ≠ 0 ∧ ¬ (S 2 c.toNat ≠ -1 ∧ S 1 (S 2 c.toNat).toNat = 1)) ∨ ((h = 1 ∨ h = 2) ∧ S 2 o.toNat ≠ S 2 c.toNat)) then 5 else if ((h = 1 ∨ h = 2) ∧ zlead (S 4) (S 5) c 12 o = true) then 6 else if 1999 < zlast (zOpS S c.toNat h (if h = 1 ∨ h = 2 then o else -1) m) then 7 else 0) (S 4 c.toNat) S (zOpS S c.toNat h (if h = 1 ∨ h = 2 then o else -1) m))) := by
    intro v5 hv5 c1
    have r1 : 0 ≤ h ∧ h ≤ 3 ∧ 0 ≤ m ∧ m ≤ 999 := by have c1 : ¬ (h < 0 ∨ 3 < h ∨ m < 0 ∨ (h = 3 ∧ 3 < m) ∨ 999 < m) := c1; omega
    
    refine g_istore (i := 5) (L' := [(0, _), (1, _), (2, _), (3, _), (4, _), (5, _)]) (by decide +kernel) rfl rfl ?_
    refine g_aload_n (i := 0) (by decide +kernel) rfl ?_
    refine g_iload_n (i := 1) (by decide +kernel) rfl ?_
    refine g_cVI (st := _) (c_Md_isClip (k := c) hn (by assumption) (by rw [hT.n]; omega)) k_Md_isClip l_Md_313 (by decide +kernel) (by omega) rfl rfl rfl rfl (Nat.le_of_ble_eq_true rfl) (by decide) ⟨by decide, by decide⟩ ?_
    rintro a9 σ9 ⟨ea9, hσ9⟩
    obtain rfl := hσ9.symm
    rw [hT.n] at ea9
    subst ea9
    refine g_if_eq (off := 16) (tgt := 84) (by decide +kernel) (by decide) zbr (fun h68 => ?_) (fun h68 => ?_)
    · have h68 := zb0.mp h68
      refine g_aload_n (i := 0) (by decide +kernel) rfl ?_
      refine g_iconst (a := 2) (by decide +kernel) ?_
      refine g_cVI (st := _) (c_Md_refuse hn) k_Md_refuse l_Md_295 (by decide +kernel) (by omega) rfl rfl rfl rfl (Nat.le_of_ble_eq_true rfl) (by decide) ⟨by decide, by decide⟩ ?_
      rintro a9 σ9 ⟨ea9, hσ9⟩
      obtain rfl := ea9.symm
      subst hσ9
      refine g_retI (by decide +kernel) rfl (Or.inl rfl) ⟨by decide, by decide⟩ ?_
      exact zAcM.no0 a0 k0 c0 hS (by rw [if_neg c1, if_pos (show (¬ (0 ≤ c ∧ c < S 0 0) ∨ ((h = 1 ∨ h = 2) ∧ ¬ (0 ≤ o ∧ o < S 0 0))) by omega)]) (by decide)
    · have h68 := zb1.mp h68
      refine g_iload (i := 5) (by decide +kernel) rfl ?_
      refine g_if_eq (off := 17) (tgt := 90) (by decide +kernel) (by decide) ⟨by omega, by omega⟩ (fun h73 => ?_) (fun h73 => ?_)
      · exact J90 _ hv5 c1 (show ¬ (¬ (0 ≤ c ∧ c < S 0 0) ∨ ((h = 1 ∨ h = 2) ∧ ¬ (0 ≤ o ∧ o < S 0 0))) by omega)
      · refine g_aload_n (i := 0) (by decide +kernel) rfl ?_
        refine g_iload_n (i := 3) (by decide +kernel) rfl ?_
        refine g_cVI (st := _) (c_Md_isClip (k := o) hn (by assumption) (by rw [hT.n]; omega)) k_Md_isClip l_Md_313 (by decide +kernel) (by omega) rfl rfl rfl rfl (Nat.le_of_ble_eq_true rfl) (by decide) ⟨by decide, by decide⟩ ?_
        rintro a9 σ9 ⟨ea9, hσ9⟩
        obtain rfl := hσ9.symm
        rw [hT.n] at ea9
        subst ea9
        refine g_if_ne (off := 9) (tgt := 90) (by decide +kernel) (by decide) zbr (fun h81 => ?_) (fun h81 => ?_)
        · have h81 := zb1.mp h81
          exact J90 _ hv5 c1 (show ¬ (¬ (0 ≤ c ∧ c < S 0 0) ∨ ((h = 1 ∨ h = 2) ∧ ¬ (0 ≤ o ∧ o < S 0 0))) by omega)
        · have h81 := zb0.mp h81
          refine g_aload_n (i := 0) (by decide +kernel) rfl ?_
          refine g_iconst (a := 2) (by decide +kernel) ?_
          refine g_cVI (st := _) (c_Md_refuse hn) k_Md_refuse l_Md_295 (by decide +kernel) (by omega) rfl rfl rfl rfl (Nat.le_of_ble_eq_true rfl) (by decide) ⟨by decide, by decide⟩ ?_
          rintro a9 σ9 ⟨ea9, hσ9⟩
          obtain rfl := ea9.symm
          subst hσ9
          refine g_retI (by decide +kernel) rfl (Or.inl rfl) ⟨by decide, by decide⟩ ?_
          exact zAcM.no0 a0 k0 c0 hS (by rw [if_neg c1, if_pos (show (¬ (0 ≤ c ∧ c < S 0 0) ∨ ((h = 1 ∨ h = 2) ∧ ¬ (0 ≤ o ∧ o < S 0 0))) by omega)]) (by decide)
  refine g_iload_n (i := 2) (by decide +kernel) rfl ?_
  refine g_iconst (a := 0) (by decide +kernel) ?_
  refine g_iconst (a := 3) (by decide +kernel) ?_
  refine g_cSI (st := _) (c_Md_isIn ⟨by omega, by omega⟩ ⟨by omega, by omega⟩ ⟨by omega, by omega⟩) k_Md_isIn l_Md_152 (by decide +kernel) rfl rfl (Nat.le_of_ble_eq_true rfl) (by decide) ⟨by decide, by decide⟩ ?_
  rintro a9 σ9 ⟨ea9, hσ9⟩
  obtain rfl := hσ9.symm
  subst ea9
  refine g_if_eq (off := 24) (tgt := 40) (by decide +kernel) (by decide) zbr (fun h16 => ?_) (fun h16 => ?_)
  · have h16 := zb0.mp h16
    refine g_aload_n (i := 0) (by decide +kernel) rfl ?_
    refine g_iconst (a := 1) (by decide +kernel) ?_
    refine g_cVI (st := _) (c_Md_refuse hn) k_Md_refuse l_Md_295 (by decide +kernel) (by omega) rfl rfl rfl rfl (Nat.le_of_ble_eq_true rfl) (by decide) ⟨by decide, by decide⟩ ?_
    rintro a9 σ9 ⟨ea9, hσ9⟩
    obtain rfl := ea9.symm
    subst hσ9
    refine g_retI (by decide +kernel) rfl (Or.inl rfl) ⟨by decide, by decide⟩ ?_
    exact zAcM.no0 a0 k0 c0 hS (if_pos (by omega)) (by decide)
  · have h16 := zb1.mp h16
    refine g_iload (i := 4) (by decide +kernel) rfl ?_
    refine g_iconst (a := 0) (by decide +kernel) ?_
    refine g_iload_n (i := 2) (by decide +kernel) rfl ?_
    refine g_iconst (a := 3) (by decide +kernel) ?_
    refine g_icmp_ne (off := 7) (tgt := 31) (by decide +kernel) (by decide) ⟨by omega, by omega⟩ ⟨by omega, by omega⟩ (fun h24 => ?_) (fun h24 => ?_)
    · refine g_sipush (a := 999) (by decide +kernel) (by decide) ?_
      refine g_cSI (st := _) (c_Md_isIn ⟨by omega, by omega⟩ ⟨by omega, by omega⟩ ⟨by omega, by omega⟩) k_Md_isIn l_Md_152 (by decide +kernel) rfl rfl (Nat.le_of_ble_eq_true rfl) (by decide) ⟨by decide, by decide⟩ ?_
      rintro a9 σ9 ⟨ea9, hσ9⟩
      obtain rfl := hσ9.symm
      subst ea9
      refine g_if_ne (off := 9) (tgt := 46) (by decide +kernel) (by decide) zbr (fun h37 => ?_) (fun h37 => ?_)
      · have h37 := zb1.mp h37
        refine g_iload_n (i := 2) (by decide +kernel) rfl ?_
        refine g_iconst (a := 1) (by decide +kernel) ?_
        refine g_icmp_eq (off := 8) (tgt := 56) (by decide +kernel) (by decide) ⟨by omega, by omega⟩ ⟨by omega, by omega⟩ (fun h48 => ?_) (fun h48 => ?_)
        · refine g_iconst (a := 1) (by decide +kernel) ?_
          refine g_goto (off := 4) (tgt := 61) (by decide +kernel) (by decide) ?_
          exact J61 _ (by omega) (show ¬ (h < 0 ∨ 3 < h ∨ m < 0 ∨ (h = 3 ∧ 3 < m) ∨ 999 < m) by omega)
        · refine g_iload_n (i := 2) (by decide +kernel) rfl ?_
          refine g_iconst (a := 2) (by decide +kernel) ?_
          refine g_icmp_ne (off := 7) (tgt := 60) (by decide +kernel) (by decide) ⟨by omega, by omega⟩ ⟨by omega, by omega⟩ (fun h53 => ?_) (fun h53 => ?_)
          · refine g_iconst (a := 0) (by decide +kernel) ?_
            exact J61 _ (by omega) (show ¬ (h < 0 ∨ 3 < h ∨ m < 0 ∨ (h = 3 ∧ 3 < m) ∨ 999 < m) by omega)
          · refine g_iconst (a := 1) (by decide +kernel) ?_
            refine g_goto (off := 4) (tgt := 61) (by decide +kernel) (by decide) ?_
            exact J61 _ (by omega) (show ¬ (h < 0 ∨ 3 < h ∨ m < 0 ∨ (h = 3 ∧ 3 < m) ∨ 999 < m) by omega)
      · have h37 := zb0.mp h37
        refine g_aload_n (i := 0) (by decide +kernel) rfl ?_
        refine g_iconst (a := 1) (by decide +kernel) ?_
        refine g_cVI (st := _) (c_Md_refuse hn) k_Md_refuse l_Md_295 (by decide +kernel) (by omega) rfl rfl rfl rfl (Nat.le_of_ble_eq_true rfl) (by decide) ⟨by decide, by decide⟩ ?_
        rintro a9 σ9 ⟨ea9, hσ9⟩
        obtain rfl := ea9.symm
        subst hσ9
        refine g_retI (by decide +kernel) rfl (Or.inl rfl) ⟨by decide, by decide⟩ ?_
        exact zAcM.no0 a0 k0 c0 hS (if_pos (by omega)) (by decide)
    · refine g_iconst (a := 3) (by decide +kernel) ?_
      refine g_goto (off := 6) (tgt := 34) (by decide +kernel) (by decide) ?_
      refine g_cSI (st := _) (c_Md_isIn ⟨by omega, by omega⟩ ⟨by omega, by omega⟩ ⟨by omega, by omega⟩) k_Md_isIn l_Md_152 (by decide +kernel) rfl rfl (Nat.le_of_ble_eq_true rfl) (by decide) ⟨by decide, by decide⟩ ?_
      rintro a9 σ9 ⟨ea9, hσ9⟩
      obtain rfl := hσ9.symm
      subst ea9
      refine g_if_ne (off := 9) (tgt := 46) (by decide +kernel) (by decide) zbr (fun h37 => ?_) (fun h37 => ?_)
      · have h37 := zb1.mp h37
        refine g_iload_n (i := 2) (by decide +kernel) rfl ?_
        refine g_iconst (a := 1) (by decide +kernel) ?_
        refine g_icmp_eq (off := 8) (tgt := 56) (by decide +kernel) (by decide) ⟨by omega, by omega⟩ ⟨by omega, by omega⟩ (fun h48 => ?_) (fun h48 => ?_)
        · refine g_iconst (a := 1) (by decide +kernel) ?_
          refine g_goto (off := 4) (tgt := 61) (by decide +kernel) (by decide) ?_
          exact J61 _ (by omega) (show ¬ (h < 0 ∨ 3 < h ∨ m < 0 ∨ (h = 3 ∧ 3 < m) ∨ 999 < m) by omega)
        · refine g_iload_n (i := 2) (by decide +kernel) rfl ?_
          refine g_iconst (a := 2) (by decide +kernel) ?_
          refine g_icmp_ne (off := 7) (tgt := 60) (by decide +kernel) (by decide) ⟨by omega, by omega⟩ ⟨by omega, by omega⟩ (fun h53 => ?_) (fun h53 => ?_)
          · refine g_iconst (a := 0) (by decide +kernel) ?_
            exact J61 _ (by omega) (show ¬ (h < 0 ∨ 3 < h ∨ m < 0 ∨ (h = 3 ∧ 3 < m) ∨ 999 < m) by omega)
          · refine g_iconst (a := 1) (by decide +kernel) ?_
            refine g_goto (off := 4) (tgt := 61) (by decide +kernel) (by decide) ?_
            exact J61 _ (by omega) (show ¬ (h < 0 ∨ 3 < h ∨ m < 0 ∨ (h = 3 ∧ 3 < m) ∨ 999 < m) by omega)
      · have h37 := zb0.mp h37
        refine g_aload_n (i := 0) (by decide +kernel) rfl ?_
        refine g_iconst (a := 1) (by decide +kernel) ?_
        refine g_cVI (st := _) (c_Md_refuse hn) k_Md_refuse l_Md_295 (by decide +kernel) (by omega) rfl rfl rfl rfl (Nat.le_of_ble_eq_true rfl) (by decide) ⟨by decide, by decide⟩ ?_
        rintro a9 σ9 ⟨ea9, hσ9⟩
        obtain rfl := ea9.symm
        subst hσ9
        refine g_retI (by decide +kernel) rfl (Or.inl rfl) ⟨by decide, by decide⟩ ?_
        exact zAcM.no0 a0 k0 c0 hS (if_pos (by omega)) (by decide)
