/-- the moment at press j, seen from moment p -/
def zTh (σ : zSt) (p j : Nat) : Nat := if σ 10 j = σ p 0 then p else 45 + 8 * j
/-- whether clip k begins by the i-th press -/
def zbp (σ : zSt) (p k i : Nat) : Bool := decide (σ 9 (σ 43 i).toNat = σ 7 (σ 25 k).toNat ∧ σ 10 (σ 43 i).toNat ≤ σ p 0 ∧ σ (zTh σ p (σ 43 i).toNat + 1) (σ 3 k).toNat = 2) && zsame (σ 3) (σ (p + 3)) (σ (zTh σ p (σ 43 i).toNat + 3)) 12 (σ 3 k)
def zBP (σ : zSt) (p k : Nat) : Int := if zfst (zbp σ p k) (σ 1 8).toNat = -1 then -1 else σ (zTh σ p (σ 43 (zfst (zbp σ p k) (σ 1 8).toNat).toNat).toNat + 2) (σ 3 k).toNat + σ 24 k
theorem zBP_at {σ : zSt} {p k i : Nat} (h : ∀ j, j < i → zbp σ p k j = false) (hi : zbp σ p k i = true) (hn : i < (σ 1 8).toNat) : zBP σ p k = σ (zTh σ p (σ 43 i).toNat + 2) (σ 3 k).toNat + σ 24 k := by
  unfold zBP
  rw [zfst_at h hi hn, if_neg (by omega), Int.toNat_natCast]
theorem zBP_no {σ : zSt} {p k : Nat} (h : ∀ j, j < (σ 1 8).toNat → zbp σ p k j = false) : zBP σ p k = -1 := by
  unfold zBP
  rw [zfst_none h, if_pos rfl]
theorem w_Sg_begunByPress {G : zG} {X : zX} {n : Nat} {σ : zSt} {p k : Nat} (hn : 189 ≤ n) (hP : zMo SH p) (hp2 : 34 ≤ p) (hk : k < 12) (hg : zGood σ 1) (rp : zMr σ p) (rA : ∀ j, j < 6 → zMr σ (45 + 8 * j)) (hor : ∀ i, i < (σ 1 8).toNat → 0 ≤ σ 43 i ∧ σ 43 i < 6) (h3 : 0 ≤ σ 3 k ∧ σ 3 k ≤ 11) (h25 : 0 ≤ σ 25 k ∧ σ 25 k ≤ 11) : ∀ (m : Nat) (i : Nat) (x5 : Int), x5 = (i : Int) → (∀ j, j < i → zbp σ p k j = false) → i ≤ (σ 1 8).toNat → (σ 1 8).toNat < i + m → Go G X m_Sg_begunByPress (1, 0, 0, 0, 0) n SH σ 32 [(0, vr G 33), (1, vr G p), (2, vi k), (3, vi (σ 3 k)), (4, vi (σ 7 (σ 25 k).toNat)), (5, vi x5)] [] (zI n SH (fun a σ' => a = zBP σ p k ∧ σ' = σ)) := by
  intro m
  induction m with
  | zero => intro i x5 e5 hb hi hm; exact absurd hm (by omega)
  | succ m ih =>
    intro i x5 e5 hb hi hm
    have hp := hP.1
    have hc : 0 ≤ σ 1 8 ∧ σ 1 8 ≤ 6 := hg.1.2.2
    have rt := rp.1
    have k7 : 0 ≤ σ 7 (σ 25 k).toNat ∧ σ 7 (σ 25 k).toNat ≤ 999 := (hg.2.1 _ (by omega)).2.2.2.2.2
    subst e5
    refine g_iload (i := 5) (by decide +kernel) rfl ?_
    refine g_aload_n (i := 0) (by decide +kernel) rfl ?_
    refine g_getr f_Sg_29 (by decide +kernel) (by omega) rfl rfl ?_
    refine g_geti f_Sg_59 (by decide +kernel) (by omega) rfl rfl ?_
    refine g_icmp_ge (off := 116) (tgt := 157) (by decide +kernel) (by decide) ⟨by omega, by omega⟩ ⟨by omega, by omega⟩ (fun h41 => ?_) (fun h41 => ?_)
    · refine g_iconst (a := -1) (by decide +kernel) ?_
      refine g_retI (by decide +kernel) rfl (Or.inl rfl) ⟨by decide, by decide⟩ ?_
      exact ⟨by rw [zBP_no (fun j2 hj2 => hb j2 (by omega))], rfl⟩
    · have oi := hor i (by omega)
      obtain ⟨j, ej⟩ := Int.eq_ofNat_of_zero_le oi.1
      have hj6 : j < 6 := by omega
      have ej2 : (σ 43 i).toNat = j := by omega
      have r9 : (0 ≤ σ 9 j ∧ σ 9 j ≤ 3) ∧ (0 ≤ σ 10 j ∧ σ 10 j ≤ 1999) := hg.2.2.2 j hj6
      have mp := rp.2 (σ 3 k).toNat (by omega)
      have ma := (rA j hj6).2 (σ 3 k).toNat (by omega)
      refine g_aload_n (i := 0) (by decide +kernel) rfl ?_
      refine g_getr f_Sg_22 (by decide +kernel) (by omega) rfl rfl ?_
      refine g_iload (i := 5) (by decide +kernel) rfl ?_
      refine g_iald (j := i) (by decide +kernel) (by omega) rfl rfl (by omega) (by decide) ?_
      refine g_istore (i := 6) (L' := [(0, _), (1, _), (2, _), (3, _), (4, _), (5, _), (6, _)]) (by decide +kernel) rfl rfl ?_
      refine g_aload_n (i := 0) (by decide +kernel) rfl ?_
      refine g_getr f_Sg_29 (by decide +kernel) (by omega) rfl rfl ?_
      refine g_getr f_Sg_64 (by decide +kernel) (by omega) rfl rfl ?_
      refine g_iload (i := 6) (by decide +kernel) rfl ?_
      refine g_iald (j := j) (by decide +kernel) (by omega) rfl ej (by omega) (by decide) ?_
      refine g_istore (i := 7) (L' := [(0, _), (1, _), (2, _), (3, _), (4, _), (5, _), (6, _), (7, _)]) (by decide +kernel) rfl rfl ?_
      refine g_aload_n (i := 0) (by decide +kernel) rfl ?_
      refine g_getr f_Sg_29 (by decide +kernel) (by omega) rfl rfl ?_
      refine g_getr f_Sg_174 (by decide +kernel) (by omega) rfl rfl ?_
      refine g_iload (i := 6) (by decide +kernel) rfl ?_
      refine g_iald (j := j) (by decide +kernel) (by omega) rfl ej (by omega) (by decide) ?_
      refine g_iload (i := 4) (by decide +kernel) rfl ?_
      refine g_icmp_ne (off := 74) (tgt := 151) (by decide +kernel) (by decide) ⟨by omega, by omega⟩ ⟨by omega, by omega⟩ (fun h77 => ?_) (fun h77 => ?_)
      · have hz : zbp σ p k i = false := by unfold zbp; rw [ej2, decide_eq_false (fun z => h77 z.1)]; rfl
        refine g_iinc (i := 5) (b := 1) (L' := [(0, _), (1, _), (2, _), (3, _), (4, _), (5, _), (6, _), (7, _)]) (by decide +kernel) rfl rfl rfl ?_
        refine g_goto (off := -122) (tgt := 32) (by decide +kernel) (by decide) ?_
        refine g_less [0, 1, 2, 3, 4, 5] rfl (ih (i + 1) _ (by omega) (fun j2 hj2 => ?_) (by omega) (by omega))
        rcases Nat.lt_or_ge j2 i with z | z
        · exact hb j2 z
        · rw [show j2 = i by omega]; exact hz
      · refine g_iload (i := 7) (by decide +kernel) rfl ?_
        refine g_aload_n (i := 1) (by decide +kernel) rfl ?_
        refine g_geti f_Sg_43 (by decide +kernel) (by omega) hP.a0 rfl ?_
        refine g_icmp_gt (off := 65) (tgt := 151) (by decide +kernel) (by decide) ⟨by omega, by omega⟩ ⟨by omega, by omega⟩ (fun h86 => ?_) (fun h86 => ?_)
        · have hz : zbp σ p k i = false := by unfold zbp; rw [ej2, decide_eq_false (fun z => by have := z.2.1; omega)]; rfl
          refine g_iinc (i := 5) (b := 1) (L' := [(0, _), (1, _), (2, _), (3, _), (4, _), (5, _), (6, _), (7, _)]) (by decide +kernel) rfl rfl rfl ?_
          refine g_goto (off := -122) (tgt := 32) (by decide +kernel) (by decide) ?_
          refine g_less [0, 1, 2, 3, 4, 5] rfl (ih (i + 1) _ (by omega) (fun j2 hj2 => ?_) (by omega) (by omega))
          rcases Nat.lt_or_ge j2 i with z | z
          · exact hb j2 z
          · rw [show j2 = i by omega]; exact hz
        · refine g_iload (i := 7) (by decide +kernel) rfl ?_
          refine g_aload_n (i := 1) (by decide +kernel) rfl ?_
          refine g_geti f_Sg_43 (by decide +kernel) (by omega) hP.a0 rfl ?_
          refine g_icmp_ne (off := 7) (tgt := 102) (by decide +kernel) (by decide) ⟨by omega, by omega⟩ ⟨by omega, by omega⟩ (fun h95 => ?_) (fun h95 => ?_)
          · have eT : zTh σ p j = 45 + 8 * j := if_neg h95
            refine g_aload_n (i := 0) (by decide +kernel) rfl ?_
            refine g_getr f_Sg_18 (by decide +kernel) (by omega) rfl rfl ?_
            refine g_iload (i := 6) (by decide +kernel) rfl ?_
            refine g_aald (CN := "") (j := j) (by decide +kernel) (by omega) rfl (Or.inr rfl) ej (by omega) (by decide) rfl ?_
            refine g_astore (i := 8) (L' := [(0, _), (1, _), (2, _), (3, _), (4, _), (5, _), (6, _), (7, _), (8, _)]) (by decide +kernel) rfl rfl ?_
            refine g_aload (i := 8) (by decide +kernel) rfl ?_
            refine g_getr f_Sg_141 (by decide +kernel) (by omega) (mo_at j hj6).a0 rfl ?_
            refine g_iload_n (i := 3) (by decide +kernel) rfl ?_
            refine g_iald (j := (σ 3 k).toNat) (by decide +kernel) (by omega) (mo_at j hj6).a1 (by omega) (by omega) (by decide) ?_
            refine g_iconst (a := 2) (by decide +kernel) ?_
            refine g_icmp_ne (off := 32) (tgt := 151) (by decide +kernel) (by decide) ⟨by omega, by omega⟩ ⟨by omega, by omega⟩ (fun h119 => ?_) (fun h119 => ?_)
            · have hz : zbp σ p k i = false := by unfold zbp; rw [ej2, eT, decide_eq_false (fun z => h119 z.2.2)]; rfl
              refine g_iinc (i := 5) (b := 1) (L' := [(0, _), (1, _), (2, _), (3, _), (4, _), (5, _), (6, _), (7, _), (8, _)]) (by decide +kernel) rfl rfl rfl ?_
              refine g_goto (off := -122) (tgt := 32) (by decide +kernel) (by decide) ?_
              refine g_less [0, 1, 2, 3, 4, 5] rfl (ih (i + 1) _ (by omega) (fun j2 hj2 => ?_) (by omega) (by omega))
              rcases Nat.lt_or_ge j2 i with z | z
              · exact hb j2 z
              · rw [show j2 = i by omega]; exact hz
            · refine g_aload_n (i := 0) (by decide +kernel) rfl ?_
              refine g_aload_n (i := 1) (by decide +kernel) rfl ?_
              refine g_aload (i := 8) (by decide +kernel) rfl ?_
              refine g_iload_n (i := 3) (by decide +kernel) rfl ?_
              refine g_cVI (st := []) (c_Sg_samePasses (p := p) (q := 45 + 8 * j) (x := σ 3 k) hn hP (mo_at j hj6) hg rp (rA j hj6) ⟨by omega, by omega⟩) k_Sg_samePasses l_Sg_177 (by decide +kernel) (by omega) rfl rfl rfl rfl (Nat.le_of_ble_eq_true rfl) (by decide) ⟨by decide, by decide⟩ ?_
              rintro a σ1 ⟨ea, hσ⟩
              obtain rfl := hσ.symm
              subst ea
              refine g_if_eq (off := 21) (tgt := 151) (by decide +kernel) (by decide) zbr (fun h130 => ?_) (fun h130 => ?_)
              · have h130 := zb0.mp h130
                have hz : zbp σ p k i = false := by
                  unfold zbp; rw [ej2, eT]
                  cases hx : zsame (σ 3) (σ (p + 3)) (σ (_ + 3)) 12 (σ 3 k) with
                  | false => simp
                  | true => exact absurd hx h130
                refine g_iinc (i := 5) (b := 1) (L' := [(0, _), (1, _), (2, _), (3, _), (4, _), (5, _), (6, _), (7, _), (8, _)]) (by decide +kernel) rfl rfl rfl ?_
                refine g_goto (off := -122) (tgt := 32) (by decide +kernel) (by decide) ?_
                refine g_less [0, 1, 2, 3, 4, 5] rfl (ih (i + 1) _ (by omega) (fun j2 hj2 => ?_) (by omega) (by omega))
                rcases Nat.lt_or_ge j2 i with z | z
                · exact hb j2 z
                · rw [show j2 = i by omega]; exact hz
              · have h130 := zb1.mp h130
                have hz : zbp σ p k i = true := by unfold zbp; rw [ej2, eT, h130, decide_eq_true ⟨h77, h86, h119⟩]; rfl
                refine g_aload (i := 8) (by decide +kernel) rfl ?_
                refine g_getr f_Sg_127 (by decide +kernel) (by omega) (mo_at j hj6).a0 rfl ?_
                refine g_iload_n (i := 3) (by decide +kernel) rfl ?_
                refine g_iald (j := (σ 3 k).toNat) (by decide +kernel) (by omega) (mo_at j hj6).a2 (by omega) (by omega) (by decide) ?_
                refine g_aload_n (i := 0) (by decide +kernel) rfl ?_
                refine g_getr f_Sg_33 (by decide +kernel) (by omega) rfl rfl ?_
                refine g_getr f_Sg_137 (by decide +kernel) (by omega) rfl rfl ?_
                refine g_iload_n (i := 2) (by decide +kernel) rfl ?_
                refine g_iald (j := k) (by decide +kernel) (by omega) rfl rfl (by omega) (by decide) ?_
                refine g_iadd (by decide +kernel) ?_
                refine g_retI (by decide +kernel) rfl (Or.inl rfl) ⟨by decide, by decide⟩ ?_
                exact ⟨by rw [zBP_at hb hz (by omega), ej2, eT], rfl⟩
          · have eT : zTh σ p j = p := if_pos h95
            refine g_aload_n (i := 1) (by decide +kernel) rfl ?_
            refine g_goto (off := 10) (tgt := 109) (by decide +kernel) (by decide) ?_
            refine g_astore (i := 8) (L' := [(0, _), (1, _), (2, _), (3, _), (4, _), (5, _), (6, _), (7, _), (8, _)]) (by decide +kernel) rfl rfl ?_
            refine g_aload (i := 8) (by decide +kernel) rfl ?_
            refine g_getr f_Sg_141 (by decide +kernel) (by omega) hP.a0 rfl ?_
            refine g_iload_n (i := 3) (by decide +kernel) rfl ?_
            refine g_iald (j := (σ 3 k).toNat) (by decide +kernel) (by omega) hP.a1 (by omega) (by omega) (by decide) ?_
            refine g_iconst (a := 2) (by decide +kernel) ?_
            refine g_icmp_ne (off := 32) (tgt := 151) (by decide +kernel) (by decide) ⟨by omega, by omega⟩ ⟨by omega, by omega⟩ (fun h119 => ?_) (fun h119 => ?_)
            · have hz : zbp σ p k i = false := by unfold zbp; rw [ej2, eT, decide_eq_false (fun z => h119 z.2.2)]; rfl
              refine g_iinc (i := 5) (b := 1) (L' := [(0, _), (1, _), (2, _), (3, _), (4, _), (5, _), (6, _), (7, _), (8, _)]) (by decide +kernel) rfl rfl rfl ?_
              refine g_goto (off := -122) (tgt := 32) (by decide +kernel) (by decide) ?_
              refine g_less [0, 1, 2, 3, 4, 5] rfl (ih (i + 1) _ (by omega) (fun j2 hj2 => ?_) (by omega) (by omega))
              rcases Nat.lt_or_ge j2 i with z | z
              · exact hb j2 z
              · rw [show j2 = i by omega]; exact hz
            · refine g_aload_n (i := 0) (by decide +kernel) rfl ?_
              refine g_aload_n (i := 1) (by decide +kernel) rfl ?_
              refine g_aload (i := 8) (by decide +kernel) rfl ?_
              refine g_iload_n (i := 3) (by decide +kernel) rfl ?_
              refine g_cVI (st := []) (c_Sg_samePasses (p := p) (q := p) (x := σ 3 k) hn hP hP hg rp rp ⟨by omega, by omega⟩) k_Sg_samePasses l_Sg_177 (by decide +kernel) (by omega) rfl rfl rfl rfl (Nat.le_of_ble_eq_true rfl) (by decide) ⟨by decide, by decide⟩ ?_
              rintro a σ1 ⟨ea, hσ⟩
              obtain rfl := hσ.symm
              subst ea
              refine g_if_eq (off := 21) (tgt := 151) (by decide +kernel) (by decide) zbr (fun h130 => ?_) (fun h130 => ?_)
              · have h130 := zb0.mp h130
                have hz : zbp σ p k i = false := by
                  unfold zbp; rw [ej2, eT]
                  cases hx : zsame (σ 3) (σ (p + 3)) (σ (_ + 3)) 12 (σ 3 k) with
                  | false => simp
                  | true => exact absurd hx h130
                refine g_iinc (i := 5) (b := 1) (L' := [(0, _), (1, _), (2, _), (3, _), (4, _), (5, _), (6, _), (7, _), (8, _)]) (by decide +kernel) rfl rfl rfl ?_
                refine g_goto (off := -122) (tgt := 32) (by decide +kernel) (by decide) ?_
                refine g_less [0, 1, 2, 3, 4, 5] rfl (ih (i + 1) _ (by omega) (fun j2 hj2 => ?_) (by omega) (by omega))
                rcases Nat.lt_or_ge j2 i with z | z
                · exact hb j2 z
                · rw [show j2 = i by omega]; exact hz
              · have h130 := zb1.mp h130
                have hz : zbp σ p k i = true := by unfold zbp; rw [ej2, eT, h130, decide_eq_true ⟨h77, h86, h119⟩]; rfl
                refine g_aload (i := 8) (by decide +kernel) rfl ?_
                refine g_getr f_Sg_127 (by decide +kernel) (by omega) hP.a0 rfl ?_
                refine g_iload_n (i := 3) (by decide +kernel) rfl ?_
                refine g_iald (j := (σ 3 k).toNat) (by decide +kernel) (by omega) hP.a2 (by omega) (by omega) (by decide) ?_
                refine g_aload_n (i := 0) (by decide +kernel) rfl ?_
                refine g_getr f_Sg_33 (by decide +kernel) (by omega) rfl rfl ?_
                refine g_getr f_Sg_137 (by decide +kernel) (by omega) rfl rfl ?_
                refine g_iload_n (i := 2) (by decide +kernel) rfl ?_
                refine g_iald (j := k) (by decide +kernel) (by omega) rfl rfl (by omega) (by decide) ?_
                refine g_iadd (by decide +kernel) ?_
                refine g_retI (by decide +kernel) rfl (Or.inl rfl) ⟨by decide, by decide⟩ ?_
                exact ⟨by rw [zBP_at hb hz (by omega), ej2, eT], rfl⟩
theorem c_Sg_begunByPress {G : zG} {n : Nat} {σ : zSt} {p k : Nat} (hn : 189 ≤ n) (hP : zMo SH p) (hp2 : 34 ≤ p) (hk : k < 12) (hg : zGood σ 1) (rp : zMr σ p) (rA : ∀ j, j < 6 → zMr σ (45 + 8 * j)) (hor : ∀ i, i < (σ 1 8).toNat → 0 ≤ σ 43 i ∧ σ 43 i < 6) (h3 : 0 ≤ σ 3 k ∧ σ 3 k ≤ 11) (h25 : 0 ≤ σ 25 k ∧ σ 25 k ≤ 11) : Gm G y_Sg_begunByPress m_Sg_begunByPress 1 0 0 [vr G 33, vr G p, vi k] n SH σ (zI n SH (fun a σ' => a = zBP σ p k ∧ σ' = σ)) := by
  refine g_enter (L := [(0, _), (1, _), (2, _)]) (by decide) rfl rfl rfl (Nat.le_of_ble_eq_true rfl) (fun X => ?_)
  have hp := hP.1
  have hc : 0 ≤ σ 1 8 ∧ σ 1 8 ≤ 6 := hg.1.2.2
  refine g_aload_n (i := 0) (by decide +kernel) rfl ?_
  refine g_getr f_Sg_29 (by decide +kernel) (by omega) rfl rfl ?_
  refine g_getr f_Sg_124 (by decide +kernel) (by omega) rfl rfl ?_
  refine g_iload_n (i := 2) (by decide +kernel) rfl ?_
  refine g_iald (j := k) (by decide +kernel) (by omega) rfl rfl (by omega) (by decide) ?_
  refine g_istore_n (i := 3) (L' := [(0, _), (1, _), (2, _), (3, _)]) (by decide +kernel) rfl rfl ?_
  refine g_aload_n (i := 0) (by decide +kernel) rfl ?_
  refine g_getr f_Sg_29 (by decide +kernel) (by omega) rfl rfl ?_
  refine g_getr f_Sg_168 (by decide +kernel) (by omega) rfl rfl ?_
  refine g_aload_n (i := 0) (by decide +kernel) rfl ?_
  refine g_getr f_Sg_33 (by decide +kernel) (by omega) rfl rfl ?_
  refine g_getr f_Sg_171 (by decide +kernel) (by omega) rfl rfl ?_
  refine g_iload_n (i := 2) (by decide +kernel) rfl ?_
  refine g_iald (j := k) (by decide +kernel) (by omega) rfl rfl (by omega) (by decide) ?_
  refine g_iald (j := (σ 25 k).toNat) (by decide +kernel) (by omega) rfl (by omega) (by omega) (by decide) ?_
  refine g_istore (i := 4) (L' := [(0, _), (1, _), (2, _), (3, _), (4, _)]) (by decide +kernel) rfl rfl ?_
  refine g_iconst (a := 0) (by decide +kernel) ?_
  refine g_istore (i := 5) (L' := [(0, _), (1, _), (2, _), (3, _), (4, _), (5, _)]) (by decide +kernel) rfl rfl ?_
  exact w_Sg_begunByPress hn hP hp2 hk hg rp rA hor h3 h25 7 0 _ rfl (fun j hj => by omega) (by omega) (by omega)
/-- the time around clip k in moment p; where it begins -/
def zTa (σ : zSt) (p k : Nat) : Int := if σ 3 k = -1 then σ p 0 else σ (p + 2) (σ 3 k).toNat
def zBk (σ : zSt) (p k : Nat) : Int := if σ 26 k = 0 then σ 24 k else zBP σ p k
def zFC (σ : zSt) (p k : Nat) : zSt := if σ 3 k ≠ -1 ∧ ¬ (σ (p + 1) (σ 3 k).toNat = 2 ∨ σ (p + 1) (σ 3 k).toNat = 3) then σ else
  if zBk σ p k = -1 ∨ zTa σ p k < zBk σ p k then zs (zs σ (p + 4) k (zBk σ p k)) (p + 1) k 1
  else if zTa σ p k - zBk σ p k < σ 23 k then zFR (zs (zs σ (p + 4) k (zBk σ p k)) (p + 1) k 2) p k (zTa σ p k - zBk σ p k)
  else if σ 8 (9 * k + 5) = 1 ∧ 0 < σ 23 k then zFR (zs (zs σ (p + 4) k (zBk σ p k)) (p + 1) k 3) p k (σ 23 k - 1)
  else zs (zs σ (p + 4) k (zBk σ p k)) (p + 1) k 4
theorem c_Sg_fillClip {G : zG} {n : Nat} {σ : zSt} {p k : Nat} (hn : 189 ≤ n) (hP : zMo SH p) (hp2 : 34 ≤ p) (hk : k < 12) (hg : zGood σ 1) (rp : zMr σ p) (rA : ∀ j, j < 6 → zMr σ (45 + 8 * j)) (hor : ∀ i, i < (σ 1 8).toNat → 0 ≤ σ 43 i ∧ σ 43 i < 6) (har : -1 ≤ σ 3 k ∧ σ 3 k ≤ 11) (hop : σ 26 k = 0 ∨ σ 26 k = 1 ∧ (0 ≤ σ 3 k ∧ 0 ≤ σ 25 k ∧ σ 25 k ≤ 11)) (hbe : 0 ≤ σ 24 k ∧ σ 24 k ≤ 1000000000) (hac : 0 ≤ σ 23 k ∧ σ 23 k ≤ 1000000000) (hsi : 0 < σ 23 k → 1 ≤ σ 22 k ∧ σ 22 k ≤ 100000000) (hrt : 1 ≤ σ 8 (9 * k + 1) ∧ σ 8 (9 * k + 1) ≤ 4) (htm : 0 ≤ σ p 0 ∧ σ p 0 ≤ 1999) : Gm G y_Sg_fillClip m_Sg_fillClip 2 0 0 [vr G 33, vr G p, vi k] n SH σ (zV n SH (fun σ' => σ' = zFC σ p k)) := by
  refine g_enter (L := [(0, _), (1, _), (2, _)]) (by decide) rfl rfl rfl (Nat.le_of_ble_eq_true rfl) (fun X => ?_)
  have hp := hP.1
  have m5 : 0 ≤ σ 8 (9 * k + 5) ∧ σ 8 (9 * k + 5) ≤ 999 := hg.2.2.1 (9 * k + 5) (by omega)
  have m4 : 0 ≤ σ 8 (9 * k + 4) ∧ σ 8 (9 * k + 4) ≤ 999 := hg.2.2.1 (9 * k + 4) (by omega)
  have tr : -1 ≤ zTa σ p k ∧ zTa σ p k ≤ 1000000000 := by
    unfold zTa
    split
    · omega
    · exact (rp.2 _ (by omega)).2.1
  have br : -1 ≤ zBk σ p k ∧ zBk σ p k ≤ 2000000000 := by
    unfold zBk
    split
    · omega
    · unfold zBP
      split
      · omega
      · next e1 e2 =>
        have z := zfst_range (p := zbp σ p k) (n := (σ 1 8).toNat)
        have o := hor (zfst (zbp σ p k) (σ 1 8).toNat).toNat (by omega)
        unfold zTh
        split
        · have := (rp.2 (σ 3 k).toNat (by omega)).2.1; omega
        · have := ((rA (σ 43 (zfst (zbp σ p k) (σ 1 8).toNat).toNat).toNat (by omega)).2 (σ 3 k).toNat (by omega)).2.1; omega
  have J74 : ¬ (σ 3 k ≠ -1 ∧ ¬ (σ (p + 1) (σ 3 k).toNat = 2 ∨ σ (p + 1) (σ 3 k).toNat = 3)) → Go G X m_Sg_fillClip (2, 0, 0, 0, 0) n SH σ 74 [(0, vr G 33), (1, vr G p), (2, vi k), (3, vi (σ 3 k)), (4, vi (zTa σ p k))] [vi (zBk σ p k)] (zV n SH (fun σ' => σ' = zFC σ p k)) := by
    intro hrun
    refine g_istore (i := 5) (L' := [(0, _), (1, _), (2, _), (3, _), (4, _), (5, _)]) (by decide +kernel) rfl rfl ?_
    refine g_aload_n (i := 1) (by decide +kernel) rfl ?_
    refine g_getr f_Sg_140 (by decide +kernel) (by omega) hP.a0 rfl ?_
    refine g_iload_n (i := 2) (by decide +kernel) rfl ?_
    refine g_iload (i := 5) (by decide +kernel) rfl ?_
    refine g_iast (j := k) (by decide +kernel) (by omega) hP.a4 rfl (by omega) (by decide) ?_
    refine g_iload (i := 5) (by decide +kernel) rfl ?_
    refine g_iconst (a := -1) (by decide +kernel) ?_
    refine g_icmp_eq (off := 10) (tgt := 97) (by decide +kernel) (by decide) ⟨by omega, by omega⟩ ⟨by omega, by omega⟩ (fun h87 => ?_) (fun h87 => ?_)
    · refine g_aload_n (i := 1) (by decide +kernel) rfl ?_
      refine g_getr f_Sg_141 (by decide +kernel) (by omega) hP.a0 rfl ?_
      refine g_iload_n (i := 2) (by decide +kernel) rfl ?_
      refine g_iconst (a := 1) (by decide +kernel) ?_
      refine g_iast (j := k) (by decide +kernel) (by omega) hP.a1 rfl (by omega) (by decide) ?_
      refine g_goto (off := 100) (tgt := 204) (by decide +kernel) (by decide) ?_
      refine g_retV (by decide +kernel) rfl ⟨by decide, by decide⟩ ?_
      unfold zFC
      rw [if_neg hrun]
      first
        | rw [if_pos (by omega)]
        | (rw [if_neg (by omega), if_pos (by omega)])
        | (rw [if_neg (by omega), if_neg (by omega), if_pos (by omega)])
        | (rw [if_neg (by omega), if_neg (by omega), if_neg (by omega)])
    · refine g_iload (i := 5) (by decide +kernel) rfl ?_
      refine g_iload (i := 4) (by decide +kernel) rfl ?_
      refine g_icmp_le (off := 13) (tgt := 107) (by decide +kernel) (by decide) ⟨by omega, by omega⟩ ⟨by omega, by omega⟩ (fun h94 => ?_) (fun h94 => ?_)
      · refine g_iload (i := 4) (by decide +kernel) rfl ?_
        refine g_iload (i := 5) (by decide +kernel) rfl ?_
        refine g_isub (by decide +kernel) ?_
        refine g_aload_n (i := 0) (by decide +kernel) rfl ?_
        refine g_getr f_Sg_33 (by decide +kernel) (by omega) rfl rfl ?_
        refine g_getr f_Sg_144 (by decide +kernel) (by omega) rfl rfl ?_
        refine g_iload_n (i := 2) (by decide +kernel) rfl ?_
        refine g_iald (j := k) (by decide +kernel) (by omega) rfl rfl (by omega) (by decide) ?_
        refine g_icmp_ge (off := 24) (tgt := 145) (by decide +kernel) (by decide) ⟨by omega, by omega⟩ ⟨by rw [zs_other (show 23 ≠ p + 4 by omega)]; omega, by rw [zs_other (show 23 ≠ p + 4 by omega)]; omega⟩ (fun h121 => ?_) (fun h121 => ?_)
        · rw [zs_other (show 23 ≠ p + 4 by omega)] at h121
          refine g_aload_n (i := 0) (by decide +kernel) rfl ?_
          refine g_getr f_Sg_29 (by decide +kernel) (by omega) rfl rfl ?_
          refine g_iload_n (i := 2) (by decide +kernel) rfl ?_
          refine g_iconst (a := 5) (by decide +kernel) ?_
          refine g_cVI (st := []) (c_Sh_markOf (b := 1) (k := k) (w := 5) hn sh_1 hk (by decide)) k_Sh_markOf l_Sg_99 (by decide +kernel) (by omega) rfl rfl rfl rfl (Nat.le_of_ble_eq_true rfl) (by decide) ⟨by decide, by decide⟩ ?_
          rintro a σ1 ⟨ea, hσ⟩
          obtain rfl := hσ.symm
          have ea : a = zs σ (p + 4) k (zBk σ p k) 8 (9 * k + 5) := ea
          subst ea
          refine g_iconst (a := 1) (by decide +kernel) ?_
          refine g_icmp_ne (off := 42) (tgt := 197) (by decide +kernel) (by decide) ⟨by rw [zs_other (show 8 ≠ p + 4 by omega)]; omega, by rw [zs_other (show 8 ≠ p + 4 by omega)]; omega⟩ ⟨by omega, by omega⟩ (fun h155 => ?_) (fun h155 => ?_)
          · rw [zs_other (show 8 ≠ p + 4 by omega)] at h155
            refine g_aload_n (i := 1) (by decide +kernel) rfl ?_
            refine g_getr f_Sg_141 (by decide +kernel) (by omega) hP.a0 rfl ?_
            refine g_iload_n (i := 2) (by decide +kernel) rfl ?_
            refine g_iconst (a := 4) (by decide +kernel) ?_
            refine g_iast (j := k) (by decide +kernel) (by omega) hP.a1 rfl (by omega) (by decide) ?_
            refine g_retV (by decide +kernel) rfl ⟨by decide, by decide⟩ ?_
            unfold zFC
            rw [if_neg hrun]
            first
              | rw [if_pos (by omega)]
              | (rw [if_neg (by omega), if_pos (by omega)])
              | (rw [if_neg (by omega), if_neg (by omega), if_pos (by omega)])
              | (rw [if_neg (by omega), if_neg (by omega), if_neg (by omega)])
          · rw [zs_other (show 8 ≠ p + 4 by omega)] at h155
            refine g_aload_n (i := 0) (by decide +kernel) rfl ?_
            refine g_getr f_Sg_33 (by decide +kernel) (by omega) rfl rfl ?_
            refine g_getr f_Sg_144 (by decide +kernel) (by omega) rfl rfl ?_
            refine g_iload_n (i := 2) (by decide +kernel) rfl ?_
            refine g_iald (j := k) (by decide +kernel) (by omega) rfl rfl (by omega) (by decide) ?_
            refine g_if_le (off := 30) (tgt := 197) (by decide +kernel) (by decide) ⟨by rw [zs_other (show 23 ≠ p + 4 by omega)]; omega, by rw [zs_other (show 23 ≠ p + 4 by omega)]; omega⟩ (fun h167 => ?_) (fun h167 => ?_)
            · rw [zs_other (show 23 ≠ p + 4 by omega)] at h167
              refine g_aload_n (i := 1) (by decide +kernel) rfl ?_
              refine g_getr f_Sg_141 (by decide +kernel) (by omega) hP.a0 rfl ?_
              refine g_iload_n (i := 2) (by decide +kernel) rfl ?_
              refine g_iconst (a := 4) (by decide +kernel) ?_
              refine g_iast (j := k) (by decide +kernel) (by omega) hP.a1 rfl (by omega) (by decide) ?_
              refine g_retV (by decide +kernel) rfl ⟨by decide, by decide⟩ ?_
              unfold zFC
              rw [if_neg hrun]
              first
                | rw [if_pos (by omega)]
                | (rw [if_neg (by omega), if_pos (by omega)])
                | (rw [if_neg (by omega), if_neg (by omega), if_pos (by omega)])
                | (rw [if_neg (by omega), if_neg (by omega), if_neg (by omega)])
            · rw [zs_other (show 23 ≠ p + 4 by omega)] at h167
              refine g_aload_n (i := 1) (by decide +kernel) rfl ?_
              refine g_getr f_Sg_141 (by decide +kernel) (by omega) hP.a0 rfl ?_
              refine g_iload_n (i := 2) (by decide +kernel) rfl ?_
              refine g_iconst (a := 3) (by decide +kernel) ?_
              refine g_iast (j := k) (by decide +kernel) (by omega) hP.a1 rfl (by omega) (by decide) ?_
              refine g_aload_n (i := 0) (by decide +kernel) rfl ?_
              refine g_aload_n (i := 1) (by decide +kernel) rfl ?_
              refine g_iload_n (i := 2) (by decide +kernel) rfl ?_
              refine g_aload_n (i := 0) (by decide +kernel) rfl ?_
              refine g_getr f_Sg_33 (by decide +kernel) (by omega) rfl rfl ?_
              refine g_getr f_Sg_144 (by decide +kernel) (by omega) rfl rfl ?_
              refine g_iload_n (i := 2) (by decide +kernel) rfl ?_
              refine g_iald (j := k) (by decide +kernel) (by omega) rfl rfl (by omega) (by decide) ?_
              refine g_iconst (a := 1) (by decide +kernel) ?_
              refine g_isub (by decide +kernel) ?_
              refine g_eq (st' := [vi (σ 23 k - 1), vi (k : Int), vr G p, vr G 33]) ?_ rfl rfl (by rw [zs_other (show 23 ≠ p + 1 by omega), zs_other (show 23 ≠ p + 4 by omega)])
              refine g_cVV (st := []) (c_Sg_fillRunning (p := p) (k := k) (s := σ 23 k - 1) hn hP (by omega) hk ⟨by omega, by omega⟩ (by rw [zs_other (show 22 ≠ p + 1 by omega), zs_other (show 22 ≠ p + 4 by omega)]; exact hsi (by omega)) (by rw [zs_other (show 8 ≠ p + 1 by omega), zs_other (show 8 ≠ p + 4 by omega)]; exact hrt) (by rw [zs_other (show 8 ≠ p + 1 by omega), zs_other (show 8 ≠ p + 4 by omega)]; exact m4)) k_Sg_fillRunning l_Sg_147 (by decide +kernel) (by omega) rfl rfl rfl rfl (Nat.le_of_ble_eq_true rfl) (by decide) ⟨by decide, by decide⟩ ?_
              rintro σ1 hσ
              obtain rfl := hσ.symm
              refine g_goto (off := 10) (tgt := 204) (by decide +kernel) (by decide) ?_
              refine g_retV (by decide +kernel) rfl ⟨by decide, by decide⟩ ?_
              unfold zFC
              rw [if_neg hrun]
              first
                | rw [if_pos (by omega)]
                | (rw [if_neg (by omega), if_pos (by omega)])
                | (rw [if_neg (by omega), if_neg (by omega), if_pos (by omega)])
                | (rw [if_neg (by omega), if_neg (by omega), if_neg (by omega)])
        · rw [zs_other (show 23 ≠ p + 4 by omega)] at h121
          refine g_aload_n (i := 1) (by decide +kernel) rfl ?_
          refine g_getr f_Sg_141 (by decide +kernel) (by omega) hP.a0 rfl ?_
          refine g_iload_n (i := 2) (by decide +kernel) rfl ?_
          refine g_iconst (a := 2) (by decide +kernel) ?_
          refine g_iast (j := k) (by decide +kernel) (by omega) hP.a1 rfl (by omega) (by decide) ?_
          refine g_aload_n (i := 0) (by decide +kernel) rfl ?_
          refine g_aload_n (i := 1) (by decide +kernel) rfl ?_
          refine g_iload_n (i := 2) (by decide +kernel) rfl ?_
          refine g_iload (i := 4) (by decide +kernel) rfl ?_
          refine g_iload (i := 5) (by decide +kernel) rfl ?_
          refine g_isub (by decide +kernel) ?_
          refine g_cVV (st := []) (c_Sg_fillRunning (p := p) (k := k) (s := zTa σ p k - zBk σ p k) hn hP (by omega) hk ⟨by omega, by omega⟩ (by rw [zs_other (show 22 ≠ p + 1 by omega), zs_other (show 22 ≠ p + 4 by omega)]; exact hsi (by omega)) (by rw [zs_other (show 8 ≠ p + 1 by omega), zs_other (show 8 ≠ p + 4 by omega)]; exact hrt) (by rw [zs_other (show 8 ≠ p + 1 by omega), zs_other (show 8 ≠ p + 4 by omega)]; exact m4)) k_Sg_fillRunning l_Sg_147 (by decide +kernel) (by omega) rfl rfl rfl rfl (Nat.le_of_ble_eq_true rfl) (by decide) ⟨by decide, by decide⟩ ?_
          rintro σ1 hσ
          obtain rfl := hσ.symm
          refine g_goto (off := 62) (tgt := 204) (by decide +kernel) (by decide) ?_
          refine g_retV (by decide +kernel) rfl ⟨by decide, by decide⟩ ?_
          unfold zFC
          rw [if_neg hrun]
          first
            | rw [if_pos (by omega)]
            | (rw [if_neg (by omega), if_pos (by omega)])
            | (rw [if_neg (by omega), if_neg (by omega), if_pos (by omega)])
            | (rw [if_neg (by omega), if_neg (by omega), if_neg (by omega)])
      · refine g_aload_n (i := 1) (by decide +kernel) rfl ?_
        refine g_getr f_Sg_141 (by decide +kernel) (by omega) hP.a0 rfl ?_
        refine g_iload_n (i := 2) (by decide +kernel) rfl ?_
        refine g_iconst (a := 1) (by decide +kernel) ?_
        refine g_iast (j := k) (by decide +kernel) (by omega) hP.a1 rfl (by omega) (by decide) ?_
        refine g_goto (off := 100) (tgt := 204) (by decide +kernel) (by decide) ?_
        refine g_retV (by decide +kernel) rfl ⟨by decide, by decide⟩ ?_
        unfold zFC
        rw [if_neg hrun]
        first
          | rw [if_pos (by omega)]
          | (rw [if_neg (by omega), if_pos (by omega)])
          | (rw [if_neg (by omega), if_neg (by omega), if_pos (by omega)])
          | (rw [if_neg (by omega), if_neg (by omega), if_neg (by omega)])
  have J42 : ¬ (σ 3 k ≠ -1 ∧ ¬ (σ (p + 1) (σ 3 k).toNat = 2 ∨ σ (p + 1) (σ 3 k).toNat = 3)) → Go G X m_Sg_fillClip (2, 0, 0, 0, 0) n SH σ 42 [(0, vr G 33), (1, vr G p), (2, vi k), (3, vi (σ 3 k))] [vi (zTa σ p k)] (zV n SH (fun σ' => σ' = zFC σ p k)) := by
    intro hrun
    refine g_istore (i := 4) (L' := [(0, _), (1, _), (2, _), (3, _), (4, _)]) (by decide +kernel) rfl rfl ?_
    refine g_aload_n (i := 0) (by decide +kernel) rfl ?_
    refine g_getr f_Sg_33 (by decide +kernel) (by omega) rfl rfl ?_
    refine g_getr f_Sg_130 (by decide +kernel) (by omega) rfl rfl ?_
    refine g_iload_n (i := 2) (by decide +kernel) rfl ?_
    refine g_zald (j := k) (by decide +kernel) (by omega) rfl rfl (by omega) (by decide) ?_
    refine g_if_eq (off := 12) (tgt := 65) (by decide +kernel) (by decide) ⟨by omega, by omega⟩ (fun h53 => ?_) (fun h53 => ?_)
    · refine g_aload_n (i := 0) (by decide +kernel) rfl ?_
      refine g_getr f_Sg_33 (by decide +kernel) (by omega) rfl rfl ?_
      refine g_getr f_Sg_137 (by decide +kernel) (by omega) rfl rfl ?_
      refine g_iload_n (i := 2) (by decide +kernel) rfl ?_
      refine g_iald (j := k) (by decide +kernel) (by omega) rfl rfl (by omega) (by decide) ?_
      exact g_eq (J74 hrun) rfl rfl (by unfold zBk; first | rw [if_pos h53] | rw [if_neg h53])
    · refine g_aload_n (i := 0) (by decide +kernel) rfl ?_
      refine g_aload_n (i := 1) (by decide +kernel) rfl ?_
      refine g_iload_n (i := 2) (by decide +kernel) rfl ?_
      refine g_cVI (st := []) (c_Sg_begunByPress hn hP hp2 hk hg rp rA hor (by omega) (by omega)) k_Sg_begunByPress l_Sg_134 (by decide +kernel) (by omega) rfl rfl rfl rfl (Nat.le_of_ble_eq_true rfl) (by decide) ⟨by decide, by decide⟩ ?_
      rintro a σ1 ⟨ea, hσ⟩
      obtain rfl := hσ.symm
      subst ea
      refine g_goto (off := 12) (tgt := 74) (by decide +kernel) (by decide) ?_
      exact g_eq (J74 hrun) rfl rfl (by unfold zBk; first | rw [if_pos h53] | rw [if_neg h53])
  refine g_aload_n (i := 0) (by decide +kernel) rfl ?_
  refine g_getr f_Sg_29 (by decide +kernel) (by omega) rfl rfl ?_
  refine g_getr f_Sg_124 (by decide +kernel) (by omega) rfl rfl ?_
  refine g_iload_n (i := 2) (by decide +kernel) rfl ?_
  refine g_iald (j := k) (by decide +kernel) (by omega) rfl rfl (by omega) (by decide) ?_
  refine g_istore_n (i := 3) (L' := [(0, _), (1, _), (2, _), (3, _)]) (by decide +kernel) rfl rfl ?_
  refine g_iload_n (i := 3) (by decide +kernel) rfl ?_
  refine g_iconst (a := -1) (by decide +kernel) ?_
  refine g_icmp_eq (off := 12) (tgt := 24) (by decide +kernel) (by decide) ⟨by omega, by omega⟩ ⟨by omega, by omega⟩ (fun h12 => ?_) (fun h12 => ?_)
  · first
      | (have hz : σ 3 k = -1 := h12
         refine g_iload_n (i := 3) (by decide +kernel) rfl ?_
         refine g_iconst (a := -1) (by decide +kernel) ?_
         refine g_icmp_ne (off := 10) (tgt := 36) (by decide +kernel) (by decide) ⟨by omega, by omega⟩ ⟨by omega, by omega⟩ (fun h => absurd hz h) (fun _ => ?_)
         refine g_aload_n (i := 1) (by decide +kernel) rfl ?_
         refine g_geti f_Sg_43 (by decide +kernel) (by omega) hP.a0 rfl ?_
         refine g_goto (off := 9) (tgt := 42) (by decide +kernel) (by decide) ?_
         exact g_eq (J42 (fun z => z.1 hz)) rfl rfl (by unfold zTa; rw [if_pos hz]))
      | (have hz : σ 3 k ≠ -1 := h12
         refine g_iload_n (i := 3) (by decide +kernel) rfl ?_
         refine g_iconst (a := -1) (by decide +kernel) ?_
         refine g_icmp_ne (off := 10) (tgt := 36) (by decide +kernel) (by decide) ⟨by omega, by omega⟩ ⟨by omega, by omega⟩ (fun _ => ?_) (fun h => absurd (by omega) hz)
         refine g_aload_n (i := 1) (by decide +kernel) rfl ?_
         refine g_getr f_Sg_127 (by decide +kernel) (by omega) hP.a0 rfl ?_
         refine g_iload_n (i := 3) (by decide +kernel) rfl ?_
         refine g_iald (j := q) (by decide +kernel) (by omega) hP.a2 rfl (by omega) (by decide) ?_
         exact g_eq (J42 (fun z => z.2 (by rw [eq2]; exact h20))) rfl (by rw [eq]) (by unfold zTa; rw [if_neg hz, eq2]))
  · refine g_aload_n (i := 1) (by decide +kernel) rfl ?_
    refine g_iload_n (i := 3) (by decide +kernel) rfl ?_
    obtain ⟨q, eq⟩ := Int.eq_ofNat_of_zero_le (show 0 ≤ σ 3 k by omega)
    have eq2 : (σ 3 k).toNat = q := by omega
    have mq := rp.2 q (by omega)
    rw [eq]
    refine g_cVI (st := []) (c_Mo_runs (k := q) hn hP (by omega) mq.1) k_Mo_runs l_Sg_112 (by decide +kernel) (by omega) hP.a0 rfl rfl rfl (Nat.le_of_ble_eq_true rfl) (by decide) ⟨by decide, by decide⟩ ?_
    rintro a σ1 ⟨ea, hσ⟩
    obtain rfl := hσ.symm
    subst ea
    refine g_if_ne (off := 4) (tgt := 24) (by decide +kernel) (by decide) zbr (fun h20 => ?_) (fun h20 => ?_)
    · have h20 := zb1.mp h20
      first
        | (have hz : σ 3 k = -1 := h12
           refine g_iload_n (i := 3) (by decide +kernel) rfl ?_
           refine g_iconst (a := -1) (by decide +kernel) ?_
           refine g_icmp_ne (off := 10) (tgt := 36) (by decide +kernel) (by decide) ⟨by omega, by omega⟩ ⟨by omega, by omega⟩ (fun h => absurd hz h) (fun _ => ?_)
           refine g_aload_n (i := 1) (by decide +kernel) rfl ?_
           refine g_geti f_Sg_43 (by decide +kernel) (by omega) hP.a0 rfl ?_
           refine g_goto (off := 9) (tgt := 42) (by decide +kernel) (by decide) ?_
           exact g_eq (J42 (fun z => z.1 hz)) rfl rfl (by unfold zTa; rw [if_pos hz]))
        | (have hz : σ 3 k ≠ -1 := h12
           refine g_iload_n (i := 3) (by decide +kernel) rfl ?_
           refine g_iconst (a := -1) (by decide +kernel) ?_
           refine g_icmp_ne (off := 10) (tgt := 36) (by decide +kernel) (by decide) ⟨by omega, by omega⟩ ⟨by omega, by omega⟩ (fun _ => ?_) (fun h => absurd (by omega) hz)
           refine g_aload_n (i := 1) (by decide +kernel) rfl ?_
           refine g_getr f_Sg_127 (by decide +kernel) (by omega) hP.a0 rfl ?_
           refine g_iload_n (i := 3) (by decide +kernel) rfl ?_
           refine g_iald (j := q) (by decide +kernel) (by omega) hP.a2 rfl (by omega) (by decide) ?_
           exact g_eq (J42 (fun z => z.2 (by rw [eq2]; exact h20))) rfl (by rw [eq]) (by unfold zTa; rw [if_neg hz, eq2]))
    · have h20 := zb0.mp h20
      refine g_retV (by decide +kernel) rfl ⟨by decide, by decide⟩ ?_
      unfold zFC
      rw [if_pos ⟨h12, by rw [eq2]; exact h20⟩]
