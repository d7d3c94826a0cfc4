/-! READING: to the end -/
theorem zMeas_last {σ τ : zSt} (hF : zFin (zSv σ 11)) (hm : zMeas σ τ 11 27) : τ 27 5 = zlast (zSv σ 11) := by
  have e := hm.2.2.2.2.1
  refine e.trans ?_
  unfold zlast
  show (if σ 11 0 = 0 then (0 : Int) else σ 17 0 + τ 29 0) = (if σ 11 0 = 0 then 0 else σ 17 0 + (zsa (zSv σ 11)).2 0)
  by_cases z : σ 11 0 = 0
  · rw [if_pos z, if_pos z]
  · have g : 0 ≤ σ 11 0 := hF.1.1.1
    have hz : zN (zSv σ 11) = (σ 11 0).toNat := rfl
    have e := (zsa_eq hF.2.1 hm.2.1 0 (by omega)).2
    rw [if_neg z, if_neg z, show τ 29 0 = _ from e]
/-- the end of what is read: a fault, or the Show B.D -/
noncomputable def zfe (b : Nat → Int) (n0 : Nat) (B : zAb) : (Int × Nat) ⊕ zAb := if zTt b n0 B.q ≠ 0 then .inl (zcs b n0 B.q, B.q) else if 1999 < zlast B.D then .inl (8, B.q) else .inr B
def zfb (b : Nat → Int) (n0 : Nat) (r : (Int × Nat) ⊕ zAb) : (Int × Nat) ⊕ zAb → Prop := match r with
  | .inl f => fun s => s = .inl f
  | .inr B => fun s => s = zfe b n0 B
/-- what reading the first n0 bytes gives -/
def zRead (b : Nat → Int) (n0 : Nat) (A : zAb) (s : (Int × Nat) ⊕ zAb) : Prop := ∃ r, zBeg b n0 A r ∧ zfb b n0 r s
theorem zRead.uniq {b : Nat → Int} {n0 : Nat} {A : zAb} {s s' : (Int × Nat) ⊕ zAb} (h : zRead b n0 A s) (g : zRead b n0 A s') : s = s' := by
  obtain ⟨r, h1, h2⟩ := h
  obtain ⟨r', g1, g2⟩ := g
  have e := h1.uniq g1
  subst e
  cases r with
  | inl f => exact (show s = .inl f from h2).trans (show s' = .inl f from g2).symm
  | inr B => exact (show s = zfe b n0 B from h2).trans (show s' = zfe b n0 B from g2).symm
/-- what the class leaves behind reading -/
def zRl (σ0 : zSt) (s : (Int × Nat) ⊕ zAb) (σ' : zSt) : Prop := (∀ a, (a < 11 ∨ (20 < a ∧ a < 27) ∨ 32 < a) → a ≠ 179 → a ≠ 180 → a ≠ 181 → σ' a = σ0 a) ∧ zGood σ' 11 ∧ (∀ k, k < 12 → σ' 32 k = 0 ∨ σ' 32 k = 1) ∧ match s with
  | .inl f => σ' 179 13 = f.1 ∧ (1 ≤ f.1 ∧ f.1 ≤ 8) ∧ σ' 179 14 = (f.2 : Int)
  | .inr B => σ' 179 13 = 0 ∧ σ' 179 14 = -1 ∧ zDr σ' B.D ∧ zFine B.D
theorem zRl.flt {b : Nat → Int} {n0 : Nat} {σ0 σ' : zSt} {f : Int × Nat} {a : Int} (h : zRo b n0 σ0 (.inl f) a σ') (hO : ∀ k, k < 12 → σ0 32 k = 0 ∨ σ0 32 k = 1) : zRl σ0 (.inl f) σ' := ⟨fun a h1 h2 h3 h4 => h.2.2.2.2.1 a (by omega) h2 h3 h4, h.2.2.2.2.2, by rw [h.2.2.2.2.1 32 (by omega) (by decide) (by decide) (by decide)]; exact hO, h.2.2.1, h.2.1, h.2.2.2.1⟩
theorem c_Rd_readEnd {G : zG} {n : Nat} {σ σ0 : zSt} {b : Nat → Int} {n0 : Nat} {A : zAb} (hn : 189 ≤ n) (hb : zBt b) (hn0 : n0 ≤ 600) (hR : zRc b n0 σ0 A σ) (hA : zAi n0 A) (hv : zAv A) (hs : zSt0 A) (hO : ∀ k, k < 12 → σ0 32 k = 0 ∨ σ0 32 k = 1)  : Gm G y_Rd_readEnd m_Rd_readEnd 4 0 0 [vr G 179] n SH σ (zV n SH (fun σ' => zRl σ0 (zfe b n0 A) σ')) := by
  refine g_enter (L := [(0, _)]) (by decide) rfl rfl rfl (Nat.le_of_ble_eq_true rfl) (fun X => ?_)
  have hq := hA.1
  have hG := hA.2.1
  have hFin := hv.fin hs
  obtain ⟨⟨a1, a2⟩, ⟨a3, a3b, a3c, a3d⟩, ⟨a4, a5, a6, a7, a8⟩, ⟨a9, a10⟩, a11, a12⟩ := id hR
  have tr := @zTt_r b n0 A.q
  have sm : zSame2 (zSv σ 11) A.D := zSame2.of (fun r hr => a11 r hr)
  have hF2 : zFin (zSv σ 11) := sm.fin hFin
  obtain ⟨d, r, hv2⟩ := hF2.2.1.1
  have hO1 : ∀ k, k < 12 → σ 32 k = 0 ∨ σ 32 k = 1 := by rw [a12 32 (by omega) (by decide) (by decide) (by decide)]; exact hO
  have el := sm.last hFin
  refine g_aload_n (i := 0) (by decide +kernel) rfl ?_
  refine g_geti f_Rd_61 (by decide +kernel) (by omega) rfl rfl ?_
  refine g_if_eq (off := 9) (tgt := 13) (by decide +kernel) (by decide) ⟨by omega, by omega⟩ (fun h4 => ?_) (fun h4 => ?_)
  · refine g_aload_n (i := 0) (by decide +kernel) rfl ?_
    refine g_getr f_Rd_26 (by decide +kernel) (by omega) rfl rfl ?_
    refine g_aload_n (i := 0) (by decide +kernel) rfl ?_
    refine g_getr f_Rd_22 (by decide +kernel) (by omega) rfl rfl ?_
    refine g_cVV (st := _) (c_La_measure (b := 11) (c := 27) hn la_27 sh_11 (zGood_rows a11 hG) (by omega) hv2 hO1) k_La_measure l_Rd_84 (by decide +kernel) (by omega) rfl rfl rfl rfl (Nat.le_of_ble_eq_true rfl) (by decide) ⟨by decide, by decide⟩ ?_
    rintro υ hM
    have hl : υ 27 5 = zlast A.D := by
      rw [← el]
      exact zMeas_last hF2 hM
    have lr := hFin.lr
    have hu : ∀ a, (a < 27 ∨ 33 ≤ a) → υ a = σ a := hM.1
    have hO2 : ∀ k, k < 12 → υ 32 k = 0 ∨ υ 32 k = 1 := hM.2.2.2.1
    refine g_aload_n (i := 0) (by decide +kernel) rfl ?_
    refine g_getr f_Rd_26 (by decide +kernel) (by omega) rfl rfl ?_
    refine g_geti f_Rd_90 (by decide +kernel) (by omega) rfl rfl ?_
    refine g_sipush (a := 1999) (by decide +kernel) (by decide) ?_
    refine g_icmp_le (off := 10) (tgt := 44) (by decide +kernel) (by decide) ⟨by omega, by omega⟩ ⟨by omega, by omega⟩ (fun h34 => ?_) (fun h34 => ?_)
    · refine g_retV (by decide +kernel) rfl ⟨by decide, by decide⟩ ?_
      show zRl _ _ _
      unfold zfe
      rw [if_neg (by omega)]
      have u11 : ∀ r, r < 10 → υ (11 + r) = σ (11 + r) := fun r hr => hu _ (by omega)
      first
        | (rw [if_pos (by omega)]
           refine ⟨fun a h1 h2 h3 h4 => by rw [zs_other h2, zs_other h2, hu a (by omega)]; exact a12 a (by omega) h2 h3 h4, zGood_rows (a11.oth (fun r hr => by rw [zs_other (by omega), zs_other (by omega)]; exact u11 r hr)) hG, by rw [zs_other (by decide), zs_other (by decide)]; exact hO2, by rw [zs_ne (by decide), zs_eq], by show (1 : Int) ≤ 8 ∧ (8 : Int) ≤ 8; decide, by rw [zs_eq, hu 179 (by omega)]; exact a3⟩)
        | (rw [if_neg (by omega)]
           exact ⟨fun a h1 h2 h3 h4 => by rw [hu a (by omega)]; exact a12 a (by omega) h2 h3 h4, zGood_rows (a11.oth u11) hG, hO2, by rw [hu 179 (by omega)]; exact a7, by rw [hu 179 (by omega)]; exact a8, a11.oth u11, hFin, by omega⟩)
    · refine g_aload_n (i := 0) (by decide +kernel) rfl ?_
      refine g_bipush (a := 8) (by decide +kernel) (by decide) ?_
      refine g_cVI (st := _) (c_Rd_failWith hn) k_Rd_failWith l_Rd_93 (by decide +kernel) (by omega) rfl rfl rfl rfl (Nat.le_of_ble_eq_true rfl) (by decide) ⟨by decide, by decide⟩ ?_
      rintro a9_ σ9 ⟨ea9, hσ9⟩
      subst ea9
      subst hσ9
      refine g_pop (by decide +kernel) rfl ?_
      refine g_retV (by decide +kernel) rfl ⟨by decide, by decide⟩ ?_
      show zRl _ _ _
      unfold zfe
      rw [if_neg (by omega)]
      have u11 : ∀ r, r < 10 → υ (11 + r) = σ (11 + r) := fun r hr => hu _ (by omega)
      first
        | (rw [if_pos (by omega)]
           refine ⟨fun a h1 h2 h3 h4 => by rw [zs_other h2, zs_other h2, hu a (by omega)]; exact a12 a (by omega) h2 h3 h4, zGood_rows (a11.oth (fun r hr => by rw [zs_other (by omega), zs_other (by omega)]; exact u11 r hr)) hG, by rw [zs_other (by decide), zs_other (by decide)]; exact hO2, by rw [zs_ne (by decide), zs_eq], by show (1 : Int) ≤ 8 ∧ (8 : Int) ≤ 8; decide, by rw [zs_eq, hu 179 (by omega)]; exact a3⟩)
        | (rw [if_neg (by omega)]
           exact ⟨fun a h1 h2 h3 h4 => by rw [hu a (by omega)]; exact a12 a (by omega) h2 h3 h4, zGood_rows (a11.oth u11) hG, hO2, by rw [hu 179 (by omega)]; exact a7, by rw [hu 179 (by omega)]; exact a8, a11.oth u11, hFin, by omega⟩)
  · refine g_aload_n (i := 0) (by decide +kernel) rfl ?_
    refine g_cVI (st := _) (c_Rd_cannotStand hn (by omega)) k_Rd_cannotStand l_Rd_81 (by decide +kernel) (by omega) rfl rfl rfl rfl (Nat.le_of_ble_eq_true rfl) (by decide) ⟨by decide, by decide⟩ ?_
    rintro a9_ σ9 ⟨ea9, hσ9⟩
    subst ea9
    subst hσ9
    refine g_pop (by decide +kernel) rfl ?_
    refine g_retV (by decide +kernel) rfl ⟨by decide, by decide⟩ ?_
    show zRl _ _ _
    unfold zfe
    rw [if_pos (by omega), a3b]
    exact zRl.flt (hR.fault hG zcs_r) hO
