/-! READING: signs, marks, clips -/
theorem zRc.upd {b : Nat → Int} {n0 : Nat} {σ0 σ τ : zSt} {A A' : zAb} (h : zRc b n0 σ0 A σ) (hq : A'.q = A.q) (f1 : ∀ j, j ≠ 10 → j ≠ 11 → j ≠ 12 → τ 179 j = σ 179 j) (f2 : ∀ a, (a < 11 ∨ 20 < a) → a ≠ 179 → a ≠ 180 → a ≠ 181 → τ a = σ a) (e10 : τ 179 10 = A'.op) (e11 : τ 179 11 = A'.mk) (e12 : A'.mk ≠ -1 → τ 179 12 = (A'.td : Int)) (e180 : τ 180 = A'.nm) (e181 : τ 181 = A'.sn) (hD : zDr τ A'.D) : zRc b n0 σ0 A' τ := by
  obtain ⟨⟨a1, a2⟩, ⟨a3, a3b, a3c, a3d⟩, ⟨a4, a5, a6, a7, a8⟩, ⟨a9, a10⟩, a11, a12⟩ := h
  refine ⟨⟨by rw [f1 3 (by decide) (by decide) (by decide)]; exact a1, by rw [f2 178 (by omega) (by decide) (by decide) (by decide)]; exact a2⟩, ?_, ⟨e10, e11, e12, by rw [f1 13 (by decide) (by decide) (by decide)]; exact a7, by rw [f1 14 (by decide) (by decide) (by decide)]; exact a8⟩, ⟨e180, e181⟩, hD, fun a h1 h2 h3 h4 => by rw [f2 a h1 h2 h3 h4]; exact a12 a h1 h2 h3 h4⟩
  unfold zTw
  rw [hq]
  exact ⟨by rw [f1 5 (by decide) (by decide) (by decide)]; exact a3, by rw [f1 4 (by decide) (by decide) (by decide)]; exact a3b, by rw [f1 6 (by decide) (by decide) (by decide)]; exact a3c, by rw [f1 7 (by decide) (by decide) (by decide)]; exact a3d⟩
/-- another draft -/
theorem zRc.drf {b : Nat → Int} {n0 : Nat} {σ0 σ τ : zSt} {A : zAb} {D' : zSt} (h : zRc b n0 σ0 A σ) (f : ∀ a, (a < 11 ∨ 20 < a) → τ a = σ a) (hD : zDr τ D') : zRc b n0 σ0 (zAm A.q D' A.nm A.sn A.td A.op A.mk) τ := by
  have e : τ 179 = σ 179 := f 179 (by omega)
  refine h.upd rfl (fun j _ _ _ => by rw [e]) (fun a ha _ _ _ => f a ha) (by rw [e]; exact h.2.2.1.1) (by rw [e]; exact h.2.2.1.2.1) (fun y => by rw [e]; exact h.2.2.1.2.2.1 y) (by rw [f 180 (by omega)]; exact h.2.2.2.1.1) (by rw [f 181 (by omega)]; exact h.2.2.2.1.2) hD
noncomputable def zpS (b : Nat → Int) (n0 : Nat) (A : zAb) (k : Nat) : (Int × Nat) ⊕ zAb := if ¬ (zTt b n0 A.q = 4 ∧ zTs b n0 A.q = (if A.D 1 k = 0 then 59 else 40)) then .inl (zcs b n0 A.q, A.q) else .inr (zAm (znx b n0 A.q) A.D A.nm A.sn A.td (if A.D 1 k = 0 then A.op else (k : Int)) (-1))
/-- a number is wanted: the fault if it is none, or out of its bounds -/
def znf (b : Nat → Int) (n0 q : Nat) : Int := if zTt b n0 q = 3 then 4 else zcs b n0 q
theorem znf_r {b : Nat → Int} {n0 q : Nat} : 1 ≤ znf b n0 q ∧ znf b n0 q ≤ 8 := by unfold znf; split; omega; exact zcs_r
noncomputable def zpM (b : Nat → Int) (n0 : Nat) (A : zAb) (k w : Nat) : (Int × Nat) ⊕ zAb := if w = 4 ∨ w = 5 then .inr (zAm (znx b n0 A.q) (zs A.D 7 (9 * k + w) 1) A.nm A.sn A.td A.op A.mk) else if ¬ (zTt b n0 (znx b n0 A.q) = 3 ∧ zTab 2 w ≤ zTs b n0 (znx b n0 A.q) ∧ zTs b n0 (znx b n0 A.q) ≤ zTab 1 w) then .inl (znf b n0 (znx b n0 A.q), znx b n0 A.q) else .inr (zAm (znx b n0 (znx b n0 A.q)) (zs A.D 7 (9 * k + w) (zTs b n0 (znx b n0 A.q))) A.nm A.sn A.td A.op A.mk)
noncomputable def zpT (b : Nat → Int) (n0 : Nat) (A : zAb) (k : Nat) (h : Int) : (Int × Nat) ⊕ zAb := if ¬ (zTt b n0 A.q = 3 ∧ 0 ≤ zTs b n0 A.q ∧ zTs b n0 A.q ≤ (if h = 3 then 3 else 999)) then .inl (znf b n0 A.q, A.q) else .inr (zAm (znx b n0 A.q) (zs (zs (zs A.D 4 k h) 5 k (-1)) 6 k (zTs b n0 A.q)) A.nm A.sn A.td A.op A.mk)
noncomputable def zpB (b : Nat → Int) (n0 : Nat) (A : zAb) (k : Nat) (h : Int) : (Int × Nat) ⊕ zAb := by
  classical
  exact if h ≠ 0 ∧ ¬ (A.D 2 k ≠ -1 ∧ A.D 1 (A.D 2 k).toNat = 1) then .inl (5, A.q) else if h = 1 ∨ h = 2 then (if ¬ zisn b n0 (znx b n0 A.q) then .inl (zcs b n0 (znx b n0 A.q), znx b n0 A.q) else zpT b n0 (zAm (znx b n0 (znx b n0 A.q)) A.D A.nm (zu A.sn k (zTs b n0 (znx b n0 A.q))) A.td A.op A.mk) k h) else zpT b n0 (zAm (znx b n0 A.q) A.D A.nm A.sn A.td A.op A.mk) k h
noncomputable def zpK (b : Nat → Int) (n0 : Nat) (A : zAb) (k : Nat) : (Int × Nat) ⊕ zAb := if zkw b n0 A.q < 3 then .inl (zcs b n0 A.q, A.q) else if A.td &&& 2 ^ (min (zkw b n0 A.q) 12).toNat ≠ 0 then .inl (5, A.q) else if zkw b n0 A.q < 12 then zpM b n0 (zAm A.q A.D A.nm A.sn (A.td ||| 2 ^ (min (zkw b n0 A.q) 12).toNat) A.op A.mk) k (zkw b n0 A.q - 3).toNat else zpB b n0 (zAm A.q A.D A.nm A.sn (A.td ||| 2 ^ (min (zkw b n0 A.q) 12).toNat) A.op A.mk) k (zkw b n0 A.q - 12)
noncomputable def zpC (b : Nat → Int) (n0 : Nat) (A : zAb) : (Int × Nat) ⊕ zAb := if ¬ (0 ≤ zkw b n0 A.q ∧ zkw b n0 A.q ≤ 2) then .inl (zcs b n0 A.q, A.q) else if 12 ≤ A.D 0 0 ∨ 4 < zdep (A.D 2) 12 A.op then .inl (6, A.q) else zpN b n0 (zAm (znx b n0 A.q) (zApp A.D 0 (zkw b n0 A.q) A.op (if A.op = -1 then 0 else (zcnt (fun j => decide (A.D 2 j = A.op)) (A.D 0 0).toNat : Int))) A.nm A.sn A.td A.op A.mk) (A.D 0 0).toNat
/-- good with one number changed -/
theorem zGood.mk7 {D : zSt} {j : Nat} {v : Int} (h : zGood D 0) (hv : 0 ≤ v ∧ v ≤ 999) : zGood (zs D 7 j v) 0 := by
  obtain ⟨h1, h2, h3, h4⟩ := h
  unfold zGood
  simp only [Nat.zero_add] at h1 h2 h3 h4 ⊢
  rw [zs_other (show (0 : Nat) ≠ 7 by decide), zs_other (show (1 : Nat) ≠ 7 by decide), zs_other (show (2 : Nat) ≠ 7 by decide), zs_other (show (3 : Nat) ≠ 7 by decide), zs_other (show (4 : Nat) ≠ 7 by decide), zs_other (show (5 : Nat) ≠ 7 by decide), zs_other (show (6 : Nat) ≠ 7 by decide), zs_other (show (8 : Nat) ≠ 7 by decide), zs_other (show (9 : Nat) ≠ 7 by decide)]
  refine ⟨h1, h2, fun k hk => ?_, h4⟩
  by_cases e : k = j
  · rw [e, zs_eq]; exact hv
  · rw [zs_ne (fun y => e y.2)]; exact h3 k hk
theorem zGood.mk456 {D : zSt} {j : Nat} {x y v : Int} (h : zGood D 0) (hx : 0 ≤ x ∧ x ≤ 3) (hy : -1 ≤ y ∧ y ≤ 11) (hv : 0 ≤ v ∧ v ≤ 999) : zGood (zs (zs (zs D 4 j x) 5 j y) 6 j v) 0 := by
  obtain ⟨h1, h2, h3, h4⟩ := h
  have o : ∀ a, a ≠ 4 → a ≠ 5 → a ≠ 6 → zs (zs (zs D 4 j x) 5 j y) 6 j v a = D a := fun a q1 q2 q3 => by rw [zs_other q3, zs_other q2, zs_other q1]
  unfold zGood
  simp only [Nat.zero_add] at h1 h2 h3 h4 ⊢
  rw [o 0 (by decide) (by decide) (by decide), o 1 (by decide) (by decide) (by decide), o 2 (by decide) (by decide) (by decide), o 3 (by decide) (by decide) (by decide), o 7 (by decide) (by decide) (by decide), o 8 (by decide) (by decide) (by decide), o 9 (by decide) (by decide) (by decide)]
  refine ⟨h1, fun k hk => ?_, h3, h4⟩
  obtain ⟨g1, g2, g3, g4, g5, g6⟩ := h2 k hk
  refine ⟨g1, g2, g3, ?_, ?_, ?_⟩
  · rw [zs_other (by decide), zs_other (by decide)]
    by_cases e : k = j
    · rw [e, zs_eq]; exact hx
    · rw [zs_ne (fun y => e y.2)]; exact g4
  · rw [zs_other (by decide)]
    by_cases e : k = j
    · rw [e, zs_eq]; exact hy
    · rw [zs_ne (fun y => e y.2), zs_other (by decide)]; exact g5
  · by_cases e : k = j
    · rw [e, zs_eq]; exact hv
    · rw [zs_ne (fun y => e y.2), zs_other (by decide), zs_other (by decide)]; exact g6
theorem c_Rd_mayBeNumber {G : zG} {n : Nat} {σ σ0 : zSt} {b : Nat → Int} {n0 : Nat} {A : zAb} (hn : 189 ≤ n) (hb : zBt b) (hn0 : n0 ≤ 600) (hR : zRc b n0 σ0 A σ) (hq : A.q ≤ n0) (hG : zGood A.D 0) {lo hi : Int} (z1 : zr lo) (z2 : zr hi)  : Gm G y_Rd_mayBeNumber m_Rd_mayBeNumber 2 0 0 [vr G 179, vi lo, vi hi] n SH σ (zI n SH (fun a σ' => ((zTt b n0 A.q = 3 ∧ lo ≤ zTs b n0 A.q ∧ zTs b n0 A.q ≤ hi) ∧ a = 1 ∧ σ' = σ) ∨ (¬ (zTt b n0 A.q = 3 ∧ lo ≤ zTs b n0 A.q ∧ zTs b n0 A.q ≤ hi) ∧ zRo b n0 σ0 (.inl (znf b n0 A.q, A.q)) a σ'))) := by
  refine g_enter (L := [(0, _), (1, _), (2, _)]) (by decide) rfl rfl rfl (Nat.le_of_ble_eq_true rfl) (fun X => ?_)
  obtain ⟨⟨a1, a2⟩, ⟨a3, a3b, a3c, a3d⟩, ⟨a4, a5, a6, a7, a8⟩, ⟨a9, a10⟩, a11, a12⟩ := id hR
  have tr := @zTt_r b n0 A.q
  have tb := zTb_r (b := b) hq
  have hB : zBt (σ 178) := by rw [a2]; exact hb
  refine g_aload_n (i := 0) (by decide +kernel) rfl ?_
  refine g_geti f_Rd_61 (by decide +kernel) (by omega) rfl rfl ?_
  refine g_iconst (a := 3) (by decide +kernel) ?_
  refine g_icmp_eq (off := 8) (tgt := 13) (by decide +kernel) (by decide) ⟨by omega, by omega⟩ ⟨by omega, by omega⟩ (fun h5 => ?_) (fun h5 => ?_)
  · have e3 : zTt b n0 A.q = 3 := by omega
    have sr := zTs_nr e3
    refine g_aload_n (i := 0) (by decide +kernel) rfl ?_
    refine g_getl f_Rd_117 (by decide +kernel) (by omega) rfl rfl ?_
    refine g_iload_n (i := 1) (by decide +kernel) rfl ?_
    refine g_i2l (by decide +kernel) ⟨by omega, by omega⟩ ?_
    refine g_lcmp (by decide +kernel) ⟨by omega, by omega⟩ ⟨by omega, by omega⟩ ?_
    refine g_if_lt (off := 13) (tgt := 33) (by decide +kernel) (by decide) zcmp_r (fun h20 => ?_) (fun h20 => ?_)
    · have h20 := zcmp_lt.mp h20
      refine g_aload_n (i := 0) (by decide +kernel) rfl ?_
      refine g_iconst (a := 4) (by decide +kernel) ?_
      refine g_cVI (st := _) (c_Rd_failWith hn) k_Rd_failWith l_Rd_93 (by decide +kernel) (by omega) rfl rfl rfl rfl (Nat.le_of_ble_eq_true rfl) (by decide) ⟨by decide, by decide⟩ ?_
      rintro a9_ σ9 ⟨ea9, hσ9⟩
      subst ea9
      subst hσ9
      refine g_if_eq (off := 7) (tgt := 45) (by decide +kernel) (by decide) ⟨by omega, by omega⟩ (fun h38 => ?_) (fun h38 => ?_)
      · refine g_iconst (a := 0) (by decide +kernel) ?_
        refine g_retI (by decide +kernel) rfl (Or.inr ⟨rfl, by omega⟩) ⟨by decide, by decide⟩ ?_
        first
          | exact absurd rfl h38
          | (refine Or.inl ⟨⟨e3, by omega, by omega⟩, rfl, rfl⟩)
          | (refine Or.inr ⟨fun y => by omega, ?_⟩
             unfold znf
             rw [if_pos e3]
             exact hR.fault hG (by decide))
      · refine g_iconst (a := 1) (by decide +kernel) ?_
        refine g_goto (off := 4) (tgt := 46) (by decide +kernel) (by decide) ?_
        refine g_retI (by decide +kernel) rfl (Or.inr ⟨rfl, by omega⟩) ⟨by decide, by decide⟩ ?_
        first
          | exact absurd rfl h38
          | (refine Or.inl ⟨⟨e3, by omega, by omega⟩, rfl, rfl⟩)
          | (refine Or.inr ⟨fun y => by omega, ?_⟩
             unfold znf
             rw [if_pos e3]
             exact hR.fault hG (by decide))
    · have h20 := zcmp_ge.mp h20
      refine g_aload_n (i := 0) (by decide +kernel) rfl ?_
      refine g_getl f_Rd_117 (by decide +kernel) (by omega) rfl rfl ?_
      refine g_iload_n (i := 2) (by decide +kernel) rfl ?_
      refine g_i2l (by decide +kernel) ⟨by omega, by omega⟩ ?_
      refine g_lcmp (by decide +kernel) ⟨by omega, by omega⟩ ⟨by omega, by omega⟩ ?_
      refine g_if_le (off := 11) (tgt := 41) (by decide +kernel) (by decide) zcmp_r (fun h30 => ?_) (fun h30 => ?_)
      · have h30 := zcmp_le.mp h30
        refine g_iconst (a := 1) (by decide +kernel) ?_
        refine g_goto (off := 4) (tgt := 46) (by decide +kernel) (by decide) ?_
        refine g_retI (by decide +kernel) rfl (Or.inr ⟨rfl, by omega⟩) ⟨by decide, by decide⟩ ?_
        first
          | exact absurd rfl h38
          | (refine Or.inl ⟨⟨e3, by omega, by omega⟩, rfl, rfl⟩)
          | (refine Or.inr ⟨fun y => by omega, ?_⟩
             unfold znf
             rw [if_pos e3]
             exact hR.fault hG (by decide))
      · have h30 := zcmp_gt.mp h30
        refine g_aload_n (i := 0) (by decide +kernel) rfl ?_
        refine g_iconst (a := 4) (by decide +kernel) ?_
        refine g_cVI (st := _) (c_Rd_failWith hn) k_Rd_failWith l_Rd_93 (by decide +kernel) (by omega) rfl rfl rfl rfl (Nat.le_of_ble_eq_true rfl) (by decide) ⟨by decide, by decide⟩ ?_
        rintro a9_ σ9 ⟨ea9, hσ9⟩
        subst ea9
        subst hσ9
        refine g_if_eq (off := 7) (tgt := 45) (by decide +kernel) (by decide) ⟨by omega, by omega⟩ (fun h38 => ?_) (fun h38 => ?_)
        · refine g_iconst (a := 0) (by decide +kernel) ?_
          refine g_retI (by decide +kernel) rfl (Or.inr ⟨rfl, by omega⟩) ⟨by decide, by decide⟩ ?_
          first
            | exact absurd rfl h38
            | (refine Or.inl ⟨⟨e3, by omega, by omega⟩, rfl, rfl⟩)
            | (refine Or.inr ⟨fun y => by omega, ?_⟩
               unfold znf
               rw [if_pos e3]
               exact hR.fault hG (by decide))
        · refine g_iconst (a := 1) (by decide +kernel) ?_
          refine g_goto (off := 4) (tgt := 46) (by decide +kernel) (by decide) ?_
          refine g_retI (by decide +kernel) rfl (Or.inr ⟨rfl, by omega⟩) ⟨by decide, by decide⟩ ?_
          first
            | exact absurd rfl h38
            | (refine Or.inl ⟨⟨e3, by omega, by omega⟩, rfl, rfl⟩)
            | (refine Or.inr ⟨fun y => by omega, ?_⟩
               unfold znf
               rw [if_pos e3]
               exact hR.fault hG (by decide))
  · refine g_aload_n (i := 0) (by decide +kernel) rfl ?_
    refine g_cVI (st := _) (c_Rd_cannotStand hn (by omega)) k_Rd_cannotStand l_Rd_81 (by decide +kernel) (by omega) rfl rfl rfl rfl (Nat.le_of_ble_eq_true rfl) (by decide) ⟨by decide, by decide⟩ ?_
    rintro a9_ σ9 ⟨ea9, hσ9⟩
    subst ea9
    subst hσ9
    refine g_retI (by decide +kernel) rfl (Or.inr ⟨rfl, by omega⟩) ⟨by decide, by decide⟩ ?_
    have e3 : zTt b n0 A.q ≠ 3 := by omega
    refine Or.inr ⟨fun y => e3 y.1, ?_⟩
    unfold znf
    rw [if_neg e3, a3b]
    exact hR.fault hG zcs_r
theorem c_Rd_readSign {G : zG} {n : Nat} {σ σ0 : zSt} {b : Nat → Int} {n0 : Nat} {A : zAb} (hn : 189 ≤ n) (hb : zBt b) (hn0 : n0 ≤ 600) (hR : zRc b n0 σ0 A σ) (hA : zAi n0 A) {k : Nat} (hk : A.mk = (k : Int))  : Gm G y_Rd_readSign m_Rd_readSign 3 0 0 [vr G 179, vi (k : Int)] n SH σ (zI n SH (fun a σ' => zRo b n0 σ0 (zpS b n0 A k) a σ')) := by
  refine g_enter (L := [(0, _), (1, _)]) (by decide) rfl rfl rfl (Nat.le_of_ble_eq_true rfl) (fun X => ?_)
  have hq := hA.1
  have hG := hA.2.1
  have nr := znx_r (b := b) hq
  obtain ⟨⟨a1, a2⟩, ⟨a3, a3b, a3c, a3d⟩, ⟨a4, a5, a6, a7, a8⟩, ⟨a9, a10⟩, a11, a12⟩ := id hR
  have tr := @zTt_r b n0 A.q
  have tb := zTb_r (b := b) hq
  have hB : zBt (σ 178) := by rw [a2]; exact hb
  have mk2 := hA.2.2.2.1
  have h12 : A.D 0 0 ≤ 12 := hG.1.2.1
  have k12 : k < 12 := by omega
  have e1 : σ 12 k = A.D 1 k := by rw [show σ 12 = A.D 1 from a11 1 (by decide)]
  have r1 : 0 ≤ A.D 1 k ∧ A.D 1 k ≤ 2 := (hG.2.1 k k12).1
  refine g_aload_n (i := 0) (by decide +kernel) rfl ?_
  refine g_getr f_Rd_22 (by decide +kernel) (by omega) rfl rfl ?_
  refine g_getr f_Rd_124 (by decide +kernel) (by omega) rfl rfl ?_
  refine g_iload_n (i := 1) (by decide +kernel) rfl ?_
  refine g_iald (j := k) (by decide +kernel) (by omega) rfl rfl (by omega) (by decide) ?_
  refine g_if_ne (off := 7) (tgt := 16) (by decide +kernel) (by decide) ⟨by omega, by omega⟩ (fun h9 => ?_) (fun h9 => ?_)
  · refine g_iconst (a := 0) (by decide +kernel) ?_
    refine g_istore_n (i := 2) (L' := [(0, _), (1, _), (2, _)]) (by decide +kernel) rfl rfl ?_
    refine g_aload_n (i := 0) (by decide +kernel) rfl ?_
    refine g_iload_n (i := 2) (by decide +kernel) rfl ?_
    refine g_if_eq (off := 8) (tgt := 28) (by decide +kernel) (by decide) ⟨by omega, by omega⟩ (fun h20 => ?_) (fun h20 => ?_)
    · refine g_bipush (a := 40) (by decide +kernel) (by decide) ?_
      refine g_cVI (st := _) (c_Rd_isSign hn ⟨by omega, by omega⟩ (by omega) (fun y => by have y1 := zTs_s (b := b) (n0 := n0) (q := A.q) (by omega); have y2 := zTt_s (b := b) (n0 := n0) (q := A.q) (by omega); rw [a3d, y1.2]; exact ⟨by omega, by omega⟩)) k_Rd_isSign l_Rd_71 (by decide +kernel) (by omega) rfl rfl rfl rfl (Nat.le_of_ble_eq_true rfl) (by decide) ⟨by decide, by decide⟩ ?_
      rintro a9_ σ9 ⟨ea9, hσ9⟩
      obtain rfl := hσ9.symm
      rw [a3b, a3d] at ea9
      have ea : a9_ = 0 ∨ a9_ = 1 := by rw [ea9]; split <;> omega
      refine g_if_ne (off := 8) (tgt := 41) (by decide +kernel) (by decide) ⟨by omega, by omega⟩ (fun h33 => ?_) (fun h33 => ?_)
      · refine g_iload_n (i := 2) (by decide +kernel) rfl ?_
        refine g_if_ne (off := 8) (tgt := 50) (by decide +kernel) (by decide) ⟨by omega, by omega⟩ (fun h42 => ?_) (fun h42 => ?_)
        · refine g_aload_n (i := 0) (by decide +kernel) rfl ?_
          refine g_iconst (a := -1) (by decide +kernel) ?_
          refine g_puti f_Rd_40 (by decide +kernel) (by omega) rfl rfl ?_
          obtain ⟨υ, eυ⟩ : ∃ υ, υ = zs (zs σ 179 10 (if A.D 1 k = 0 then A.op else (k : Int))) 179 11 (-1) := ⟨_, rfl⟩
          have hU : zRc b n0 σ0 (zAm A.q A.D A.nm A.sn A.td (if A.D 1 k = 0 then A.op else (k : Int)) (-1)) υ := by
            rw [eυ]
            refine hR.upd rfl (fun j h1 h2 _ => by rw [zs_ne (by omega), zs_ne (by omega)]) (fun a _ h2 _ _ => by rw [zs_other h2, zs_other h2]) (by rw [zs_ne (by decide), zs_eq]) (by rw [zs_eq]) (fun y => absurd rfl y) (by rw [zs_other (by decide), zs_other (by decide)]; exact a9) (by rw [zs_other (by decide), zs_other (by decide)]; exact a10) (a11.oth (fun r hr => by rw [zs_other (by omega), zs_other (by omega)]))
          refine g_eq (σ' := υ) ?_ ?_ rfl rfl
          rotate_left
          · rw [eυ]
            first
              | (exfalso; omega)
              | (have hz : A.D 1 k = 0 := by omega
                 rw [if_pos hz]
                 have e : zs σ 179 10 A.op = σ := by
                   funext a
                   by_cases q : a = 179
                   · subst q
                     funext j
                     by_cases y : j = 10
                     · rw [y, zs_eq]; exact a4.symm
                     · rw [zs_ne (fun z => y z.2)]
                   · rw [zs_other q]
                 rw [e])
              | (have hz : A.D 1 k ≠ 0 := by omega
                 rw [if_neg hz])
          refine g_aload_n (i := 0) (by decide +kernel) rfl ?_
          refine g_cVV (st := _) (c_Rd_takeToken (n0 := n0) (p := zTb b n0 (A.q)) hn (by rw [hU.1.2]; exact hb) hU.1.1 hn0 (zTb_r hq).2 hU.2.1.2.2.1) k_Rd_takeToken l_Rd_54 (by decide +kernel) (by omega) rfl rfl rfl rfl (Nat.le_of_ble_eq_true rfl) (by decide) ⟨by decide, by decide⟩ ?_
          rintro υ9 hk9
          have hF := hU.next hk9
          refine g_iconst (a := 1) (by decide +kernel) ?_
          refine g_retI (by decide +kernel) rfl (Or.inr ⟨rfl, by omega⟩) ⟨by decide, by decide⟩ ?_
          show zRo _ _ _ _ _ _
          have h34 := h33
          rw [ea9] at h34
          have h35 := zit1 h34
          first
            | (exfalso; omega)
            | (have er : zpS b n0 A k = .inr (zAm (znx b n0 A.q) A.D A.nm A.sn A.td (if A.D 1 k = 0 then A.op else (k : Int)) (-1)) := by
                 unfold zpS
                 refine if_neg (fun y => y ?_)
                 first
                 | (rw [if_pos (show A.D 1 k = 0 from ‹_›)]; exact h35)
                 | (have hz : A.D 1 k = 0 := by clear y; omega
                    rw [if_pos hz]; exact h35)
                 | (have hz : ¬ A.D 1 k = 0 := by clear y; omega
                    rw [if_neg hz]; exact h35)
               rw [er]
               obtain ⟨b1, b2, b3, b4, b5, b6⟩ := hA
               refine ⟨rfl, hF, nr.2, b2, ?_, ⟨by show (-1 : Int) ≤ -1; decide, by show (-1 : Int) < A.D 0 0; omega⟩, b5, b6⟩
               show -1 ≤ (if A.D 1 k = 0 then A.op else (k : Int)) ∧ (if A.D 1 k = 0 then A.op else (k : Int)) < A.D 0 0
               split <;> omega)
        · refine g_aload_n (i := 0) (by decide +kernel) rfl ?_
          refine g_iload_n (i := 1) (by decide +kernel) rfl ?_
          refine g_puti f_Rd_37 (by decide +kernel) (by omega) rfl rfl ?_
          refine g_aload_n (i := 0) (by decide +kernel) rfl ?_
          refine g_iconst (a := -1) (by decide +kernel) ?_
          refine g_puti f_Rd_40 (by decide +kernel) (by omega) rfl rfl ?_
          obtain ⟨υ, eυ⟩ : ∃ υ, υ = zs (zs σ 179 10 (if A.D 1 k = 0 then A.op else (k : Int))) 179 11 (-1) := ⟨_, rfl⟩
          have hU : zRc b n0 σ0 (zAm A.q A.D A.nm A.sn A.td (if A.D 1 k = 0 then A.op else (k : Int)) (-1)) υ := by
            rw [eυ]
            refine hR.upd rfl (fun j h1 h2 _ => by rw [zs_ne (by omega), zs_ne (by omega)]) (fun a _ h2 _ _ => by rw [zs_other h2, zs_other h2]) (by rw [zs_ne (by decide), zs_eq]) (by rw [zs_eq]) (fun y => absurd rfl y) (by rw [zs_other (by decide), zs_other (by decide)]; exact a9) (by rw [zs_other (by decide), zs_other (by decide)]; exact a10) (a11.oth (fun r hr => by rw [zs_other (by omega), zs_other (by omega)]))
          refine g_eq (σ' := υ) ?_ ?_ rfl rfl
          rotate_left
          · rw [eυ]
            first
              | (exfalso; omega)
              | (have hz : A.D 1 k = 0 := by omega
                 rw [if_pos hz]
                 have e : zs σ 179 10 A.op = σ := by
                   funext a
                   by_cases q : a = 179
                   · subst q
                     funext j
                     by_cases y : j = 10
                     · rw [y, zs_eq]; exact a4.symm
                     · rw [zs_ne (fun z => y z.2)]
                   · rw [zs_other q]
                 rw [e])
              | (have hz : A.D 1 k ≠ 0 := by omega
                 rw [if_neg hz])
          refine g_aload_n (i := 0) (by decide +kernel) rfl ?_
          refine g_cVV (st := _) (c_Rd_takeToken (n0 := n0) (p := zTb b n0 (A.q)) hn (by rw [hU.1.2]; exact hb) hU.1.1 hn0 (zTb_r hq).2 hU.2.1.2.2.1) k_Rd_takeToken l_Rd_54 (by decide +kernel) (by omega) rfl rfl rfl rfl (Nat.le_of_ble_eq_true rfl) (by decide) ⟨by decide, by decide⟩ ?_
          rintro υ9 hk9
          have hF := hU.next hk9
          refine g_iconst (a := 1) (by decide +kernel) ?_
          refine g_retI (by decide +kernel) rfl (Or.inr ⟨rfl, by omega⟩) ⟨by decide, by decide⟩ ?_
          show zRo _ _ _ _ _ _
          have h34 := h33
          rw [ea9] at h34
          have h35 := zit1 h34
          first
            | (exfalso; omega)
            | (have er : zpS b n0 A k = .inr (zAm (znx b n0 A.q) A.D A.nm A.sn A.td (if A.D 1 k = 0 then A.op else (k : Int)) (-1)) := by
                 unfold zpS
                 refine if_neg (fun y => y ?_)
                 first
                 | (rw [if_pos (show A.D 1 k = 0 from ‹_›)]; exact h35)
                 | (have hz : A.D 1 k = 0 := by clear y; omega
                    rw [if_pos hz]; exact h35)
                 | (have hz : ¬ A.D 1 k = 0 := by clear y; omega
                    rw [if_neg hz]; exact h35)
               rw [er]
               obtain ⟨b1, b2, b3, b4, b5, b6⟩ := hA
               refine ⟨rfl, hF, nr.2, b2, ?_, ⟨by show (-1 : Int) ≤ -1; decide, by show (-1 : Int) < A.D 0 0; omega⟩, b5, b6⟩
               show -1 ≤ (if A.D 1 k = 0 then A.op else (k : Int)) ∧ (if A.D 1 k = 0 then A.op else (k : Int)) < A.D 0 0
               split <;> omega)
      · refine g_aload_n (i := 0) (by decide +kernel) rfl ?_
        refine g_cVI (st := _) (c_Rd_cannotStand hn (by omega)) k_Rd_cannotStand l_Rd_81 (by decide +kernel) (by omega) rfl rfl rfl rfl (Nat.le_of_ble_eq_true rfl) (by decide) ⟨by decide, by decide⟩ ?_
        rintro a9_ σ9 ⟨ea9, hσ9⟩
        subst ea9
        subst hσ9
        refine g_retI (by decide +kernel) rfl (Or.inr ⟨rfl, by omega⟩) ⟨by decide, by decide⟩ ?_
        show zRo _ _ _ _ _ _
        unfold zpS
        rw [ea9] at h33
        have h34 := zit0 h33
        first
          | (exfalso; omega)
          | (first | rw [if_pos (show A.D 1 k = 0 by omega)] | rw [if_neg (show ¬ A.D 1 k = 0 by omega)]
             rw [if_pos h34, a3b]
             exact hR.fault hG zcs_r)
    · refine g_bipush (a := 59) (by decide +kernel) (by decide) ?_
      refine g_goto (off := 5) (tgt := 30) (by decide +kernel) (by decide) ?_
      refine g_cVI (st := _) (c_Rd_isSign hn ⟨by omega, by omega⟩ (by omega) (fun y => by have y1 := zTs_s (b := b) (n0 := n0) (q := A.q) (by omega); have y2 := zTt_s (b := b) (n0 := n0) (q := A.q) (by omega); rw [a3d, y1.2]; exact ⟨by omega, by omega⟩)) k_Rd_isSign l_Rd_71 (by decide +kernel) (by omega) rfl rfl rfl rfl (Nat.le_of_ble_eq_true rfl) (by decide) ⟨by decide, by decide⟩ ?_
      rintro a9_ σ9 ⟨ea9, hσ9⟩
      obtain rfl := hσ9.symm
      rw [a3b, a3d] at ea9
      have ea : a9_ = 0 ∨ a9_ = 1 := by rw [ea9]; split <;> omega
      refine g_if_ne (off := 8) (tgt := 41) (by decide +kernel) (by decide) ⟨by omega, by omega⟩ (fun h33 => ?_) (fun h33 => ?_)
      · refine g_iload_n (i := 2) (by decide +kernel) rfl ?_
        refine g_if_ne (off := 8) (tgt := 50) (by decide +kernel) (by decide) ⟨by omega, by omega⟩ (fun h42 => ?_) (fun h42 => ?_)
        · refine g_aload_n (i := 0) (by decide +kernel) rfl ?_
          refine g_iconst (a := -1) (by decide +kernel) ?_
          refine g_puti f_Rd_40 (by decide +kernel) (by omega) rfl rfl ?_
          obtain ⟨υ, eυ⟩ : ∃ υ, υ = zs (zs σ 179 10 (if A.D 1 k = 0 then A.op else (k : Int))) 179 11 (-1) := ⟨_, rfl⟩
          have hU : zRc b n0 σ0 (zAm A.q A.D A.nm A.sn A.td (if A.D 1 k = 0 then A.op else (k : Int)) (-1)) υ := by
            rw [eυ]
            refine hR.upd rfl (fun j h1 h2 _ => by rw [zs_ne (by omega), zs_ne (by omega)]) (fun a _ h2 _ _ => by rw [zs_other h2, zs_other h2]) (by rw [zs_ne (by decide), zs_eq]) (by rw [zs_eq]) (fun y => absurd rfl y) (by rw [zs_other (by decide), zs_other (by decide)]; exact a9) (by rw [zs_other (by decide), zs_other (by decide)]; exact a10) (a11.oth (fun r hr => by rw [zs_other (by omega), zs_other (by omega)]))
          refine g_eq (σ' := υ) ?_ ?_ rfl rfl
          rotate_left
          · rw [eυ]
            first
              | (exfalso; omega)
              | (have hz : A.D 1 k = 0 := by omega
                 rw [if_pos hz]
                 have e : zs σ 179 10 A.op = σ := by
                   funext a
                   by_cases q : a = 179
                   · subst q
                     funext j
                     by_cases y : j = 10
                     · rw [y, zs_eq]; exact a4.symm
                     · rw [zs_ne (fun z => y z.2)]
                   · rw [zs_other q]
                 rw [e])
              | (have hz : A.D 1 k ≠ 0 := by omega
                 rw [if_neg hz])
          refine g_aload_n (i := 0) (by decide +kernel) rfl ?_
          refine g_cVV (st := _) (c_Rd_takeToken (n0 := n0) (p := zTb b n0 (A.q)) hn (by rw [hU.1.2]; exact hb) hU.1.1 hn0 (zTb_r hq).2 hU.2.1.2.2.1) k_Rd_takeToken l_Rd_54 (by decide +kernel) (by omega) rfl rfl rfl rfl (Nat.le_of_ble_eq_true rfl) (by decide) ⟨by decide, by decide⟩ ?_
          rintro υ9 hk9
          have hF := hU.next hk9
          refine g_iconst (a := 1) (by decide +kernel) ?_
          refine g_retI (by decide +kernel) rfl (Or.inr ⟨rfl, by omega⟩) ⟨by decide, by decide⟩ ?_
          show zRo _ _ _ _ _ _
          have h34 := h33
          rw [ea9] at h34
          have h35 := zit1 h34
          first
            | (exfalso; omega)
            | (have er : zpS b n0 A k = .inr (zAm (znx b n0 A.q) A.D A.nm A.sn A.td (if A.D 1 k = 0 then A.op else (k : Int)) (-1)) := by
                 unfold zpS
                 refine if_neg (fun y => y ?_)
                 first
                 | (rw [if_pos (show A.D 1 k = 0 from ‹_›)]; exact h35)
                 | (have hz : A.D 1 k = 0 := by clear y; omega
                    rw [if_pos hz]; exact h35)
                 | (have hz : ¬ A.D 1 k = 0 := by clear y; omega
                    rw [if_neg hz]; exact h35)
               rw [er]
               obtain ⟨b1, b2, b3, b4, b5, b6⟩ := hA
               refine ⟨rfl, hF, nr.2, b2, ?_, ⟨by show (-1 : Int) ≤ -1; decide, by show (-1 : Int) < A.D 0 0; omega⟩, b5, b6⟩
               show -1 ≤ (if A.D 1 k = 0 then A.op else (k : Int)) ∧ (if A.D 1 k = 0 then A.op else (k : Int)) < A.D 0 0
               split <;> omega)
        · refine g_aload_n (i := 0) (by decide +kernel) rfl ?_
          refine g_iload_n (i := 1) (by decide +kernel) rfl ?_
          refine g_puti f_Rd_37 (by decide +kernel) (by omega) rfl rfl ?_
          refine g_aload_n (i := 0) (by decide +kernel) rfl ?_
          refine g_iconst (a := -1) (by decide +kernel) ?_
          refine g_puti f_Rd_40 (by decide +kernel) (by omega) rfl rfl ?_
          obtain ⟨υ, eυ⟩ : ∃ υ, υ = zs (zs σ 179 10 (if A.D 1 k = 0 then A.op else (k : Int))) 179 11 (-1) := ⟨_, rfl⟩
          have hU : zRc b n0 σ0 (zAm A.q A.D A.nm A.sn A.td (if A.D 1 k = 0 then A.op else (k : Int)) (-1)) υ := by
            rw [eυ]
            refine hR.upd rfl (fun j h1 h2 _ => by rw [zs_ne (by omega), zs_ne (by omega)]) (fun a _ h2 _ _ => by rw [zs_other h2, zs_other h2]) (by rw [zs_ne (by decide), zs_eq]) (by rw [zs_eq]) (fun y => absurd rfl y) (by rw [zs_other (by decide), zs_other (by decide)]; exact a9) (by rw [zs_other (by decide), zs_other (by decide)]; exact a10) (a11.oth (fun r hr => by rw [zs_other (by omega), zs_other (by omega)]))
          refine g_eq (σ' := υ) ?_ ?_ rfl rfl
          rotate_left
          · rw [eυ]
            first
              | (exfalso; omega)
              | (have hz : A.D 1 k = 0 := by omega
                 rw [if_pos hz]
                 have e : zs σ 179 10 A.op = σ := by
                   funext a
                   by_cases q : a = 179
                   · subst q
                     funext j
                     by_cases y : j = 10
                     · rw [y, zs_eq]; exact a4.symm
                     · rw [zs_ne (fun z => y z.2)]
                   · rw [zs_other q]
                 rw [e])
              | (have hz : A.D 1 k ≠ 0 := by omega
                 rw [if_neg hz])
          refine g_aload_n (i := 0) (by decide +kernel) rfl ?_
          refine g_cVV (st := _) (c_Rd_takeToken (n0 := n0) (p := zTb b n0 (A.q)) hn (by rw [hU.1.2]; exact hb) hU.1.1 hn0 (zTb_r hq).2 hU.2.1.2.2.1) k_Rd_takeToken l_Rd_54 (by decide +kernel) (by omega) rfl rfl rfl rfl (Nat.le_of_ble_eq_true rfl) (by decide) ⟨by decide, by decide⟩ ?_
          rintro υ9 hk9
          have hF := hU.next hk9
          refine g_iconst (a := 1) (by decide +kernel) ?_
          refine g_retI (by decide +kernel) rfl (Or.inr ⟨rfl, by omega⟩) ⟨by decide, by decide⟩ ?_
          show zRo _ _ _ _ _ _
          have h34 := h33
          rw [ea9] at h34
          have h35 := zit1 h34
          first
            | (exfalso; omega)
            | (have er : zpS b n0 A k = .inr (zAm (znx b n0 A.q) A.D A.nm A.sn A.td (if A.D 1 k = 0 then A.op else (k : Int)) (-1)) := by
                 unfold zpS
                 refine if_neg (fun y => y ?_)
                 first
                 | (rw [if_pos (show A.D 1 k = 0 from ‹_›)]; exact h35)
                 | (have hz : A.D 1 k = 0 := by clear y; omega
                    rw [if_pos hz]; exact h35)
                 | (have hz : ¬ A.D 1 k = 0 := by clear y; omega
                    rw [if_neg hz]; exact h35)
               rw [er]
               obtain ⟨b1, b2, b3, b4, b5, b6⟩ := hA
               refine ⟨rfl, hF, nr.2, b2, ?_, ⟨by show (-1 : Int) ≤ -1; decide, by show (-1 : Int) < A.D 0 0; omega⟩, b5, b6⟩
               show -1 ≤ (if A.D 1 k = 0 then A.op else (k : Int)) ∧ (if A.D 1 k = 0 then A.op else (k : Int)) < A.D 0 0
               split <;> omega)
      · refine g_aload_n (i := 0) (by decide +kernel) rfl ?_
        refine g_cVI (st := _) (c_Rd_cannotStand hn (by omega)) k_Rd_cannotStand l_Rd_81 (by decide +kernel) (by omega) rfl rfl rfl rfl (Nat.le_of_ble_eq_true rfl) (by decide) ⟨by decide, by decide⟩ ?_
        rintro a9_ σ9 ⟨ea9, hσ9⟩
        subst ea9
        subst hσ9
        refine g_retI (by decide +kernel) rfl (Or.inr ⟨rfl, by omega⟩) ⟨by decide, by decide⟩ ?_
        show zRo _ _ _ _ _ _
        unfold zpS
        rw [ea9] at h33
        have h34 := zit0 h33
        first
          | (exfalso; omega)
          | (first | rw [if_pos (show A.D 1 k = 0 by omega)] | rw [if_neg (show ¬ A.D 1 k = 0 by omega)]
             rw [if_pos h34, a3b]
             exact hR.fault hG zcs_r)
  · refine g_iconst (a := 1) (by decide +kernel) ?_
    refine g_goto (off := 4) (tgt := 17) (by decide +kernel) (by decide) ?_
    refine g_istore_n (i := 2) (L' := [(0, _), (1, _), (2, _)]) (by decide +kernel) rfl rfl ?_
    refine g_aload_n (i := 0) (by decide +kernel) rfl ?_
    refine g_iload_n (i := 2) (by decide +kernel) rfl ?_
    refine g_if_eq (off := 8) (tgt := 28) (by decide +kernel) (by decide) ⟨by omega, by omega⟩ (fun h20 => ?_) (fun h20 => ?_)
    · refine g_bipush (a := 40) (by decide +kernel) (by decide) ?_
      refine g_cVI (st := _) (c_Rd_isSign hn ⟨by omega, by omega⟩ (by omega) (fun y => by have y1 := zTs_s (b := b) (n0 := n0) (q := A.q) (by omega); have y2 := zTt_s (b := b) (n0 := n0) (q := A.q) (by omega); rw [a3d, y1.2]; exact ⟨by omega, by omega⟩)) k_Rd_isSign l_Rd_71 (by decide +kernel) (by omega) rfl rfl rfl rfl (Nat.le_of_ble_eq_true rfl) (by decide) ⟨by decide, by decide⟩ ?_
      rintro a9_ σ9 ⟨ea9, hσ9⟩
      obtain rfl := hσ9.symm
      rw [a3b, a3d] at ea9
      have ea : a9_ = 0 ∨ a9_ = 1 := by rw [ea9]; split <;> omega
      refine g_if_ne (off := 8) (tgt := 41) (by decide +kernel) (by decide) ⟨by omega, by omega⟩ (fun h33 => ?_) (fun h33 => ?_)
      · refine g_iload_n (i := 2) (by decide +kernel) rfl ?_
        refine g_if_ne (off := 8) (tgt := 50) (by decide +kernel) (by decide) ⟨by omega, by omega⟩ (fun h42 => ?_) (fun h42 => ?_)
        · refine g_aload_n (i := 0) (by decide +kernel) rfl ?_
          refine g_iconst (a := -1) (by decide +kernel) ?_
          refine g_puti f_Rd_40 (by decide +kernel) (by omega) rfl rfl ?_
          obtain ⟨υ, eυ⟩ : ∃ υ, υ = zs (zs σ 179 10 (if A.D 1 k = 0 then A.op else (k : Int))) 179 11 (-1) := ⟨_, rfl⟩
          have hU : zRc b n0 σ0 (zAm A.q A.D A.nm A.sn A.td (if A.D 1 k = 0 then A.op else (k : Int)) (-1)) υ := by
            rw [eυ]
            refine hR.upd rfl (fun j h1 h2 _ => by rw [zs_ne (by omega), zs_ne (by omega)]) (fun a _ h2 _ _ => by rw [zs_other h2, zs_other h2]) (by rw [zs_ne (by decide), zs_eq]) (by rw [zs_eq]) (fun y => absurd rfl y) (by rw [zs_other (by decide), zs_other (by decide)]; exact a9) (by rw [zs_other (by decide), zs_other (by decide)]; exact a10) (a11.oth (fun r hr => by rw [zs_other (by omega), zs_other (by omega)]))
          refine g_eq (σ' := υ) ?_ ?_ rfl rfl
          rotate_left
          · rw [eυ]
            first
              | (exfalso; omega)
              | (have hz : A.D 1 k = 0 := by omega
                 rw [if_pos hz]
                 have e : zs σ 179 10 A.op = σ := by
                   funext a
                   by_cases q : a = 179
                   · subst q
                     funext j
                     by_cases y : j = 10
                     · rw [y, zs_eq]; exact a4.symm
                     · rw [zs_ne (fun z => y z.2)]
                   · rw [zs_other q]
                 rw [e])
              | (have hz : A.D 1 k ≠ 0 := by omega
                 rw [if_neg hz])
          refine g_aload_n (i := 0) (by decide +kernel) rfl ?_
          refine g_cVV (st := _) (c_Rd_takeToken (n0 := n0) (p := zTb b n0 (A.q)) hn (by rw [hU.1.2]; exact hb) hU.1.1 hn0 (zTb_r hq).2 hU.2.1.2.2.1) k_Rd_takeToken l_Rd_54 (by decide +kernel) (by omega) rfl rfl rfl rfl (Nat.le_of_ble_eq_true rfl) (by decide) ⟨by decide, by decide⟩ ?_
          rintro υ9 hk9
          have hF := hU.next hk9
          refine g_iconst (a := 1) (by decide +kernel) ?_
          refine g_retI (by decide +kernel) rfl (Or.inr ⟨rfl, by omega⟩) ⟨by decide, by decide⟩ ?_
          show zRo _ _ _ _ _ _
          have h34 := h33
          rw [ea9] at h34
          have h35 := zit1 h34
          first
            | (exfalso; omega)
            | (have er : zpS b n0 A k = .inr (zAm (znx b n0 A.q) A.D A.nm A.sn A.td (if A.D 1 k = 0 then A.op else (k : Int)) (-1)) := by
                 unfold zpS
                 refine if_neg (fun y => y ?_)
                 first
                 | (rw [if_pos (show A.D 1 k = 0 from ‹_›)]; exact h35)
                 | (have hz : A.D 1 k = 0 := by clear y; omega
                    rw [if_pos hz]; exact h35)
                 | (have hz : ¬ A.D 1 k = 0 := by clear y; omega
                    rw [if_neg hz]; exact h35)
               rw [er]
               obtain ⟨b1, b2, b3, b4, b5, b6⟩ := hA
               refine ⟨rfl, hF, nr.2, b2, ?_, ⟨by show (-1 : Int) ≤ -1; decide, by show (-1 : Int) < A.D 0 0; omega⟩, b5, b6⟩
               show -1 ≤ (if A.D 1 k = 0 then A.op else (k : Int)) ∧ (if A.D 1 k = 0 then A.op else (k : Int)) < A.D 0 0
               split <;> omega)
        · refine g_aload_n (i := 0) (by decide +kernel) rfl ?_
          refine g_iload_n (i := 1) (by decide +kernel) rfl ?_
          refine g_puti f_Rd_37 (by decide +kernel) (by omega) rfl rfl ?_
          refine g_aload_n (i := 0) (by decide +kernel) rfl ?_
          refine g_iconst (a := -1) (by decide +kernel) ?_
          refine g_puti f_Rd_40 (by decide +kernel) (by omega) rfl rfl ?_
          obtain ⟨υ, eυ⟩ : ∃ υ, υ = zs (zs σ 179 10 (if A.D 1 k = 0 then A.op else (k : Int))) 179 11 (-1) := ⟨_, rfl⟩
          have hU : zRc b n0 σ0 (zAm A.q A.D A.nm A.sn A.td (if A.D 1 k = 0 then A.op else (k : Int)) (-1)) υ := by
            rw [eυ]
            refine hR.upd rfl (fun j h1 h2 _ => by rw [zs_ne (by omega), zs_ne (by omega)]) (fun a _ h2 _ _ => by rw [zs_other h2, zs_other h2]) (by rw [zs_ne (by decide), zs_eq]) (by rw [zs_eq]) (fun y => absurd rfl y) (by rw [zs_other (by decide), zs_other (by decide)]; exact a9) (by rw [zs_other (by decide), zs_other (by decide)]; exact a10) (a11.oth (fun r hr => by rw [zs_other (by omega), zs_other (by omega)]))
          refine g_eq (σ' := υ) ?_ ?_ rfl rfl
          rotate_left
          · rw [eυ]
            first
              | (exfalso; omega)
              | (have hz : A.D 1 k = 0 := by omega
                 rw [if_pos hz]
                 have e : zs σ 179 10 A.op = σ := by
                   funext a
                   by_cases q : a = 179
                   · subst q
                     funext j
                     by_cases y : j = 10
                     · rw [y, zs_eq]; exact a4.symm
                     · rw [zs_ne (fun z => y z.2)]
                   · rw [zs_other q]
                 rw [e])
              | (have hz : A.D 1 k ≠ 0 := by omega
                 rw [if_neg hz])
          refine g_aload_n (i := 0) (by decide +kernel) rfl ?_
          refine g_cVV (st := _) (c_Rd_takeToken (n0 := n0) (p := zTb b n0 (A.q)) hn (by rw [hU.1.2]; exact hb) hU.1.1 hn0 (zTb_r hq).2 hU.2.1.2.2.1) k_Rd_takeToken l_Rd_54 (by decide +kernel) (by omega) rfl rfl rfl rfl (Nat.le_of_ble_eq_true rfl) (by decide) ⟨by decide, by decide⟩ ?_
          rintro υ9 hk9
          have hF := hU.next hk9
          refine g_iconst (a := 1) (by decide +kernel) ?_
          refine g_retI (by decide +kernel) rfl (Or.inr ⟨rfl, by omega⟩) ⟨by decide, by decide⟩ ?_
          show zRo _ _ _ _ _ _
          have h34 := h33
          rw [ea9] at h34
          have h35 := zit1 h34
          first
            | (exfalso; omega)
            | (have er : zpS b n0 A k = .inr (zAm (znx b n0 A.q) A.D A.nm A.sn A.td (if A.D 1 k = 0 then A.op else (k : Int)) (-1)) := by
                 unfold zpS
                 refine if_neg (fun y => y ?_)
                 first
                 | (rw [if_pos (show A.D 1 k = 0 from ‹_›)]; exact h35)
                 | (have hz : A.D 1 k = 0 := by clear y; omega
                    rw [if_pos hz]; exact h35)
                 | (have hz : ¬ A.D 1 k = 0 := by clear y; omega
                    rw [if_neg hz]; exact h35)
               rw [er]
               obtain ⟨b1, b2, b3, b4, b5, b6⟩ := hA
               refine ⟨rfl, hF, nr.2, b2, ?_, ⟨by show (-1 : Int) ≤ -1; decide, by show (-1 : Int) < A.D 0 0; omega⟩, b5, b6⟩
               show -1 ≤ (if A.D 1 k = 0 then A.op else (k : Int)) ∧ (if A.D 1 k = 0 then A.op else (k : Int)) < A.D 0 0
               split <;> omega)
      · refine g_aload_n (i := 0) (by decide +kernel) rfl ?_
        refine g_cVI (st := _) (c_Rd_cannotStand hn (by omega)) k_Rd_cannotStand l_Rd_81 (by decide +kernel) (by omega) rfl rfl rfl rfl (Nat.le_of_ble_eq_true rfl) (by decide) ⟨by decide, by decide⟩ ?_
        rintro a9_ σ9 ⟨ea9, hσ9⟩
        subst ea9
        subst hσ9
        refine g_retI (by decide +kernel) rfl (Or.inr ⟨rfl, by omega⟩) ⟨by decide, by decide⟩ ?_
        show zRo _ _ _ _ _ _
        unfold zpS
        rw [ea9] at h33
        have h34 := zit0 h33
        first
          | (exfalso; omega)
          | (first | rw [if_pos (show A.D 1 k = 0 by omega)] | rw [if_neg (show ¬ A.D 1 k = 0 by omega)]
             rw [if_pos h34, a3b]
             exact hR.fault hG zcs_r)
    · refine g_bipush (a := 59) (by decide +kernel) (by decide) ?_
      refine g_goto (off := 5) (tgt := 30) (by decide +kernel) (by decide) ?_
      refine g_cVI (st := _) (c_Rd_isSign hn ⟨by omega, by omega⟩ (by omega) (fun y => by have y1 := zTs_s (b := b) (n0 := n0) (q := A.q) (by omega); have y2 := zTt_s (b := b) (n0 := n0) (q := A.q) (by omega); rw [a3d, y1.2]; exact ⟨by omega, by omega⟩)) k_Rd_isSign l_Rd_71 (by decide +kernel) (by omega) rfl rfl rfl rfl (Nat.le_of_ble_eq_true rfl) (by decide) ⟨by decide, by decide⟩ ?_
      rintro a9_ σ9 ⟨ea9, hσ9⟩
      obtain rfl := hσ9.symm
      rw [a3b, a3d] at ea9
      have ea : a9_ = 0 ∨ a9_ = 1 := by rw [ea9]; split <;> omega
      refine g_if_ne (off := 8) (tgt := 41) (by decide +kernel) (by decide) ⟨by omega, by omega⟩ (fun h33 => ?_) (fun h33 => ?_)
      · refine g_iload_n (i := 2) (by decide +kernel) rfl ?_
        refine g_if_ne (off := 8) (tgt := 50) (by decide +kernel) (by decide) ⟨by omega, by omega⟩ (fun h42 => ?_) (fun h42 => ?_)
        · refine g_aload_n (i := 0) (by decide +kernel) rfl ?_
          refine g_iconst (a := -1) (by decide +kernel) ?_
          refine g_puti f_Rd_40 (by decide +kernel) (by omega) rfl rfl ?_
          obtain ⟨υ, eυ⟩ : ∃ υ, υ = zs (zs σ 179 10 (if A.D 1 k = 0 then A.op else (k : Int))) 179 11 (-1) := ⟨_, rfl⟩
          have hU : zRc b n0 σ0 (zAm A.q A.D A.nm A.sn A.td (if A.D 1 k = 0 then A.op else (k : Int)) (-1)) υ := by
            rw [eυ]
            refine hR.upd rfl (fun j h1 h2 _ => by rw [zs_ne (by omega), zs_ne (by omega)]) (fun a _ h2 _ _ => by rw [zs_other h2, zs_other h2]) (by rw [zs_ne (by decide), zs_eq]) (by rw [zs_eq]) (fun y => absurd rfl y) (by rw [zs_other (by decide), zs_other (by decide)]; exact a9) (by rw [zs_other (by decide), zs_other (by decide)]; exact a10) (a11.oth (fun r hr => by rw [zs_other (by omega), zs_other (by omega)]))
          refine g_eq (σ' := υ) ?_ ?_ rfl rfl
          rotate_left
          · rw [eυ]
            first
              | (exfalso; omega)
              | (have hz : A.D 1 k = 0 := by omega
                 rw [if_pos hz]
                 have e : zs σ 179 10 A.op = σ := by
                   funext a
                   by_cases q : a = 179
                   · subst q
                     funext j
                     by_cases y : j = 10
                     · rw [y, zs_eq]; exact a4.symm
                     · rw [zs_ne (fun z => y z.2)]
                   · rw [zs_other q]
                 rw [e])
              | (have hz : A.D 1 k ≠ 0 := by omega
                 rw [if_neg hz])
          refine g_aload_n (i := 0) (by decide +kernel) rfl ?_
          refine g_cVV (st := _) (c_Rd_takeToken (n0 := n0) (p := zTb b n0 (A.q)) hn (by rw [hU.1.2]; exact hb) hU.1.1 hn0 (zTb_r hq).2 hU.2.1.2.2.1) k_Rd_takeToken l_Rd_54 (by decide +kernel) (by omega) rfl rfl rfl rfl (Nat.le_of_ble_eq_true rfl) (by decide) ⟨by decide, by decide⟩ ?_
          rintro υ9 hk9
          have hF := hU.next hk9
          refine g_iconst (a := 1) (by decide +kernel) ?_
          refine g_retI (by decide +kernel) rfl (Or.inr ⟨rfl, by omega⟩) ⟨by decide, by decide⟩ ?_
          show zRo _ _ _ _ _ _
          have h34 := h33
          rw [ea9] at h34
          have h35 := zit1 h34
          first
            | (exfalso; omega)
            | (have er : zpS b n0 A k = .inr (zAm (znx b n0 A.q) A.D A.nm A.sn A.td (if A.D 1 k = 0 then A.op else (k : Int)) (-1)) := by
                 unfold zpS
                 refine if_neg (fun y => y ?_)
                 first
                 | (rw [if_pos (show A.D 1 k = 0 from ‹_›)]; exact h35)
                 | (have hz : A.D 1 k = 0 := by clear y; omega
                    rw [if_pos hz]; exact h35)
                 | (have hz : ¬ A.D 1 k = 0 := by clear y; omega
                    rw [if_neg hz]; exact h35)
               rw [er]
               obtain ⟨b1, b2, b3, b4, b5, b6⟩ := hA
               refine ⟨rfl, hF, nr.2, b2, ?_, ⟨by show (-1 : Int) ≤ -1; decide, by show (-1 : Int) < A.D 0 0; omega⟩, b5, b6⟩
               show -1 ≤ (if A.D 1 k = 0 then A.op else (k : Int)) ∧ (if A.D 1 k = 0 then A.op else (k : Int)) < A.D 0 0
               split <;> omega)
        · refine g_aload_n (i := 0) (by decide +kernel) rfl ?_
          refine g_iload_n (i := 1) (by decide +kernel) rfl ?_
          refine g_puti f_Rd_37 (by decide +kernel) (by omega) rfl rfl ?_
          refine g_aload_n (i := 0) (by decide +kernel) rfl ?_
          refine g_iconst (a := -1) (by decide +kernel) ?_
          refine g_puti f_Rd_40 (by decide +kernel) (by omega) rfl rfl ?_
          obtain ⟨υ, eυ⟩ : ∃ υ, υ = zs (zs σ 179 10 (if A.D 1 k = 0 then A.op else (k : Int))) 179 11 (-1) := ⟨_, rfl⟩
          have hU : zRc b n0 σ0 (zAm A.q A.D A.nm A.sn A.td (if A.D 1 k = 0 then A.op else (k : Int)) (-1)) υ := by
            rw [eυ]
            refine hR.upd rfl (fun j h1 h2 _ => by rw [zs_ne (by omega), zs_ne (by omega)]) (fun a _ h2 _ _ => by rw [zs_other h2, zs_other h2]) (by rw [zs_ne (by decide), zs_eq]) (by rw [zs_eq]) (fun y => absurd rfl y) (by rw [zs_other (by decide), zs_other (by decide)]; exact a9) (by rw [zs_other (by decide), zs_other (by decide)]; exact a10) (a11.oth (fun r hr => by rw [zs_other (by omega), zs_other (by omega)]))
          refine g_eq (σ' := υ) ?_ ?_ rfl rfl
          rotate_left
          · rw [eυ]
            first
              | (exfalso; omega)
              | (have hz : A.D 1 k = 0 := by omega
                 rw [if_pos hz]
                 have e : zs σ 179 10 A.op = σ := by
                   funext a
                   by_cases q : a = 179
                   · subst q
                     funext j
                     by_cases y : j = 10
                     · rw [y, zs_eq]; exact a4.symm
                     · rw [zs_ne (fun z => y z.2)]
                   · rw [zs_other q]
                 rw [e])
              | (have hz : A.D 1 k ≠ 0 := by omega
                 rw [if_neg hz])
          refine g_aload_n (i := 0) (by decide +kernel) rfl ?_
          refine g_cVV (st := _) (c_Rd_takeToken (n0 := n0) (p := zTb b n0 (A.q)) hn (by rw [hU.1.2]; exact hb) hU.1.1 hn0 (zTb_r hq).2 hU.2.1.2.2.1) k_Rd_takeToken l_Rd_54 (by decide +kernel) (by omega) rfl rfl rfl rfl (Nat.le_of_ble_eq_true rfl) (by decide) ⟨by decide, by decide⟩ ?_
          rintro υ9 hk9
          have hF := hU.next hk9
          refine g_iconst (a := 1) (by decide +kernel) ?_
          refine g_retI (by decide +kernel) rfl (Or.inr ⟨rfl, by omega⟩) ⟨by decide, by decide⟩ ?_
          show zRo _ _ _ _ _ _
          have h34 := h33
          rw [ea9] at h34
          have h35 := zit1 h34
          first
            | (exfalso; omega)
            | (have er : zpS b n0 A k = .inr (zAm (znx b n0 A.q) A.D A.nm A.sn A.td (if A.D 1 k = 0 then A.op else (k : Int)) (-1)) := by
                 unfold zpS
                 refine if_neg (fun y => y ?_)
                 first
                 | (rw [if_pos (show A.D 1 k = 0 from ‹_›)]; exact h35)
                 | (have hz : A.D 1 k = 0 := by clear y; omega
                    rw [if_pos hz]; exact h35)
                 | (have hz : ¬ A.D 1 k = 0 := by clear y; omega
                    rw [if_neg hz]; exact h35)
               rw [er]
               obtain ⟨b1, b2, b3, b4, b5, b6⟩ := hA
               refine ⟨rfl, hF, nr.2, b2, ?_, ⟨by show (-1 : Int) ≤ -1; decide, by show (-1 : Int) < A.D 0 0; omega⟩, b5, b6⟩
               show -1 ≤ (if A.D 1 k = 0 then A.op else (k : Int)) ∧ (if A.D 1 k = 0 then A.op else (k : Int)) < A.D 0 0
               split <;> omega)
      · refine g_aload_n (i := 0) (by decide +kernel) rfl ?_
        refine g_cVI (st := _) (c_Rd_cannotStand hn (by omega)) k_Rd_cannotStand l_Rd_81 (by decide +kernel) (by omega) rfl rfl rfl rfl (Nat.le_of_ble_eq_true rfl) (by decide) ⟨by decide, by decide⟩ ?_
        rintro a9_ σ9 ⟨ea9, hσ9⟩
        subst ea9
        subst hσ9
        refine g_retI (by decide +kernel) rfl (Or.inr ⟨rfl, by omega⟩) ⟨by decide, by decide⟩ ?_
        show zRo _ _ _ _ _ _
        unfold zpS
        rw [ea9] at h33
        have h34 := zit0 h33
        first
          | (exfalso; omega)
          | (first | rw [if_pos (show A.D 1 k = 0 by omega)] | rw [if_neg (show ¬ A.D 1 k = 0 by omega)]
             rw [if_pos h34, a3b]
             exact hR.fault hG zcs_r)
