/-! READING in the reference: a start, a mark -/
theorem zs_id {σ : zSt} {a j : Nat} {v : Int} (h : σ a j = v) : zs σ a j v = σ := by
  funext x y
  by_cases e : x = a ∧ y = j
  · rw [e.1, e.2, zs_eq, h]
  · rw [zs_ne e]
theorem zN_zs {D : zSt} {r j : Nat} {v : Int} (h : r ≠ 0) : zN (zs D r j v) = zN D := by unfold zN; rw [zs_other (fun e => h e.symm)]
/-- a number of the draft changes -/
theorem zRrK.putD {b : Nat → Int} {n0 K r j : Nat} {σ0 σ : zSt} {A : zAb} {v : Int} (h : zRrK b n0 σ0 K A σ) (hG : zGood A.D 0) (h1 : 1 ≤ r) (h2 : r ≤ 9) (h4 : r ≠ 4) (hj : j < zmW r) : zRrK b n0 σ0 K (zAD A (zs A.D r j v)) (zs σ 190 (1746 + zmO r + j) v) := by
  have o := zmO_2 (r := r)
  refine ⟨h.1.drf (by omega), ⟨fun i hi => by rw [zs_other (by decide)]; exact h.2.1.1 i hi, fun i hi hb => ?_⟩, fun e => by rw [zs_other (by decide)]; exact h.2.2.1 e, ?_⟩
  · have hb2 : zby (zs A.D r j v 4 i) = true := hb
    rw [zs_other (fun e => h4 e.symm)] at hb2
    rw [zs_other (by decide)]
    exact h.2.1.2 i (by have hi2 : i < zN (zs A.D r j v) := hi; rw [zN_zs (by omega)] at hi2; exact hi2) hb2
  · rw [zs_row]
    exact zEqv_put ⟨by have := hG.1; unfold zN; omega, by have := hG.1; omega⟩ h.2.2.2 h1 h2 hj
/-- the way a clip starts -/
theorem zRr.how {b : Nat → Int} {n0 k : Nat} {σ0 σ : zSt} {A : zAb} {h : Int} (hR : zRr b n0 σ0 A σ) (hG : zGood A.D 0) (hk : k < 12) (hb : zby h = false) : zRr b n0 σ0 (zAD A (zs A.D 4 k h)) (zs σ 190 (1892 + k) h) := by
  unfold zRr
  rw [show zN (zAD A (zs A.D 4 k h)).D = zN A.D from zN_zs (by decide)]
  refine ⟨hR.1.drf (by omega), ⟨fun i hi => by rw [zs_other (by decide)]; exact hR.2.1.1 i hi, fun i hi hz => ?_⟩, fun e => by rw [zs_other (by decide)]; exact hR.2.2.1 e, ?_⟩
  · have hz2 : zby (zs A.D 4 k h 4 i) = true := hz
    rw [zs_other (by decide)]
    by_cases e : i = k
    · rw [e, zs_eq, hb] at hz2; exact absurd hz2 (by decide)
    · rw [zs_ne (by omega)] at hz2
      exact hR.2.1.2 i (by have hi2 : i < zN (zs A.D 4 k h) := hi; rw [zN_zs (by decide)] at hi2; exact hi2) hz2
  · rw [zs_row]
    exact zEqv_put (r := 4) (o := 1746) ⟨by have := hG.1; unfold zN; omega, by have := hG.1; omega⟩ hR.2.2.2 (by decide) (by decide) hk
theorem zRr.how2 {b : Nat → Int} {n0 k : Nat} {σ0 σ : zSt} {A : zAb} {h x y : Int} (hR : zRr b n0 σ0 A σ) (hG : zGood A.D 0) (hk : k < 12) (hn : zNme x y) : zRr b n0 σ0 (zAm A.q (zs A.D 4 k h) A.nm (zu A.sn k x) A.td A.op A.mk) (zs (zs σ 190 (1892 + k) h) 199 k y) := by
  unfold zRr
  rw [show zN (zAm A.q (zs A.D 4 k h) A.nm (zu A.sn k x) A.td A.op A.mk).D = zN A.D from zN_zs (by decide)]
  refine ⟨(hR.1.drf (by omega)).oth (by decide), ⟨fun i hi => by rw [zs_other (by decide), zs_other (by decide)]; exact hR.2.1.1 i hi, fun i hi hz => ?_⟩, fun e => by rw [zs_other (by decide), zs_other (by decide)]; exact hR.2.2.1 e, ?_⟩
  · have hz2 : zby (zs A.D 4 k h 4 i) = true := hz
    show zNme (zu A.sn k x i) _
    by_cases e : i = k
    · rw [e, zu_eq, zs_eq]; exact hn
    · rw [zs_ne (by omega)] at hz2
      rw [zu_ne e, zs_ne (by omega), zs_other (by decide)]
      exact hR.2.1.2 i (by have hi2 : i < zN (zs A.D 4 k h) := hi; rw [zN_zs (by decide)] at hi2; exact hi2) hz2
  · rw [zs_other (by decide), zs_row]
    exact zEqv_put (r := 4) (o := 1746) ⟨by have := hG.1; unfold zN; omega, by have := hG.1; omega⟩ hR.2.2.2 (by decide) (by decide) hk
noncomputable def zpBt (b : Nat → Int) (n0 : Nat) (A : zAb) (k : Nat) (h : Int) : (Int × Nat) ⊕ zAb := by
  classical
  exact if h = 1 ∨ h = 2 then (if ¬ zisn b n0 A.q then .inl (zcs b n0 A.q, A.q) else zpT b n0 (zAm (znx b n0 A.q) A.D A.nm (zu A.sn k (zTs b n0 A.q)) A.td A.op A.mk) k h) else zpT b n0 A k h
theorem zpB_t {b : Nat → Int} {n0 k : Nat} {A : zAb} {h : Int} (hh : ¬ (h ≠ 0 ∧ ¬ (A.D 2 k ≠ -1 ∧ A.D 1 (A.D 2 k).toNat = 1))) : zpB b n0 A k h = zpBt b n0 (zAm (znx b n0 A.q) A.D A.nm A.sn A.td A.op A.mk) k h := by
  unfold zpB zpBt
  rw [if_neg hh]
/-- what the machine tells of the clip whose marks are read -/
theorem zAv.m5 {n0 k : Nat} {A : zAb} (hA : zAi n0 A) (hv : zAv A) (hk : A.mk = (k : Int)) : A.D 5 k = -1 ∧ k < zN A.D ∧ A.D 2 k = A.op := by
  have h4 := hv.2.2.2.1 (by omega)
  rw [hk, Int.toNat_natCast] at h4
  have kN : k < zN A.D := by unfold zN; omega
  refine ⟨?_, kN, h4.1⟩
  cases e : zby (A.D 4 k) with
  | true => exact hv.2.2.2.2.2.2 k kN e (by rw [h4.1]; exact zOpn_rf _ _)
  | false =>
    have g := (hv.1.2.2 k (by rw [zneu_N]; exact kN)).2
    rw [zneu_n (fun y => by have := y.2.1; rw [e] at this; exact absurd this (by decide)), zneu_o A.D (by decide)] at g
    exact g e
theorem t_Md_readsStart51F {G : zG} {X : zX} {n : Nat} {σ : zSt} {σ0 : zSt} {b : Nat → Int} {n0 k : Nat} {h : Int} {f : Int × Nat} {r : (Int × Nat) ⊕ zAb} (hn : 220 ≤ n) (hF : zRft σ0 f σ) (hr : r = .inl f) (hk : k < 12) (hh : 0 ≤ h ∧ h ≤ 3) (h18 : zr (σ 189 18))  : Go G X m_Md_readsStart (4, 0, 0, 0, 0) n SH σ 51 [(0, vr G 189), (1, vi (k : Int)), (2, vi h)] [] (zV n SH (fun σ' => zRg b n0 σ0 r σ')) := by
  refine g_aload_n (i := 0) (by decide +kernel) rfl ?_
  refine g_getr f_Md_7 (by decide +kernel) (by omega) rfl rfl ?_
  refine g_sipush (a := 1916) (by decide +kernel) (by decide) ?_
  refine g_iload_n (i := 1) (by decide +kernel) rfl ?_
  refine g_iadd (by decide +kernel) ?_
  refine g_aload_n (i := 0) (by decide +kernel) rfl ?_
  refine g_iconst (a := 0) (by decide +kernel) ?_
  refine g_iload_n (i := 2) (by decide +kernel) rfl ?_
  refine g_iconst (a := 3) (by decide +kernel) ?_
  refine g_icmp_ne (off := 7) (tgt := 71) (by decide +kernel) (by decide) ⟨by omega, by omega⟩ ⟨by omega, by omega⟩ (fun h64 => ?_) (fun h64 => ?_)
  · refine g_sipush (a := 999) (by decide +kernel) (by decide) ?_
    refine g_cVI (st := _) (c_Md_takesNumberF hn hF ⟨by decide, by decide⟩ ⟨by decide, by decide⟩ h18) k_Md_takesNumber l_Md_253 (by decide +kernel) (by omega) rfl rfl rfl rfl (Nat.le_of_ble_eq_true rfl) (by decide) ⟨by decide, by decide⟩ ?_
    rintro a9 σ9 hσ9
    obtain rfl := hσ9.symm
    refine g_iast (j := 1916 + k) (by decide +kernel) (by omega) rfl (by omega) (by omega) (by decide) ?_
    refine g_retV (by decide +kernel) rfl ⟨by decide, by decide⟩ ?_
    show zRg _ _ _ _ _
    rw [hr]
    exact hF.drf (by omega)
  · refine g_iconst (a := 3) (by decide +kernel) ?_
    refine g_goto (off := 6) (tgt := 74) (by decide +kernel) (by decide) ?_
    refine g_cVI (st := _) (c_Md_takesNumberF hn hF ⟨by decide, by decide⟩ ⟨by decide, by decide⟩ h18) k_Md_takesNumber l_Md_253 (by decide +kernel) (by omega) rfl rfl rfl rfl (Nat.le_of_ble_eq_true rfl) (by decide) ⟨by decide, by decide⟩ ?_
    rintro a9 σ9 hσ9
    obtain rfl := hσ9.symm
    refine g_iast (j := 1916 + k) (by decide +kernel) (by omega) rfl (by omega) (by omega) (by decide) ?_
    refine g_retV (by decide +kernel) rfl ⟨by decide, by decide⟩ ?_
    show zRg _ _ _ _ _
    rw [hr]
    exact hF.drf (by omega)
theorem t_Md_readsStart30F {G : zG} {X : zX} {n : Nat} {σ : zSt} {σ0 : zSt} {b : Nat → Int} {n0 k : Nat} {h : Int} {f : Int × Nat} {r : (Int × Nat) ⊕ zAb} (hn : 220 ≤ n) (hF : zRft σ0 f σ) (hr : r = .inl f) (hk : k < 12) (hh : 0 ≤ h ∧ h ≤ 3) (h18 : zr (σ 189 18))  : Go G X m_Md_readsStart (4, 0, 0, 0, 0) n SH σ 30 [(0, vr G 189), (1, vi (k : Int)), (2, vi h)] [] (zV n SH (fun σ' => zRg b n0 σ0 r σ')) := by
  have f1 := hF.1
  have f2 := hF.2.1
  refine g_aload_n (i := 0) (by decide +kernel) rfl ?_
  refine g_getr f_Md_79 (by decide +kernel) (by omega) rfl rfl ?_
  refine g_iload_n (i := 1) (by decide +kernel) rfl ?_
  refine g_aload_n (i := 0) (by decide +kernel) rfl ?_
  refine g_getl f_Md_219 (by decide +kernel) (by omega) rfl rfl ?_
  refine g_last (j := k) (by decide +kernel) (by omega) rfl rfl (by omega) (by decide) ?_
  refine g_aload_n (i := 0) (by decide +kernel) rfl ?_
  refine g_geti f_Md_230 (by decide +kernel) (by omega) rfl rfl ?_
  refine g_if_ne (off := 7) (tgt := 51) (by decide +kernel) (by decide) ⟨by rw [zs_other (by decide)]; omega, by rw [zs_other (by decide)]; omega⟩ (fun h44 => ?_) (fun h44 => ?_)
  · exact t_Md_readsStart51F hn (hF.oth (by decide)) hr hk hh (by rw [zs_other (by decide)]; exact h18)
  · rw [zs_other (by decide)] at h44
    exact absurd h44 (by omega)
theorem t_Md_readsStart51 {G : zG} {X : zX} {n : Nat} {σ : zSt} {b : Nat → Int} {n0 : Nat} {σ0 : zSt} {A : zAb} {k : Nat} {h : Int} (hn : 220 ≤ n) (h0 : zR0 b n0 σ0) (hn0 : n0 ≤ 600) (hA : zAi n0 A) (hk : A.mk = (k : Int)) (h5 : A.D 5 k = -1) (hh : 0 ≤ h ∧ h ≤ 3) (hR : zRr b n0 σ0 (zAD A (zs A.D 4 k h)) σ)  : Go G X m_Md_readsStart (4, 0, 0, 0, 0) n SH σ 51 [(0, vr G 189), (1, vi (k : Int)), (2, vi h)] [] (zV n SH (fun σ' => zRg b n0 σ0 (zpT b n0 A k h) σ')) := by
  have hG := hA.2.1
  have k12 : k < 12 := by have := hA.2.2.2.1; have := hG.1; omega
  have hG4 : zGood (zs A.D 4 k h) 0 := by
    have g := hG.mk456 (j := k) (x := h) (y := -1) (v := A.D 6 k) hh (by decide) ((hG.2.1 k k12).2.2.2.2.2)
    rw [zs_id (a := 5) (by rw [zs_other (by decide)]; exact h5), zs_id (a := 6) (by rw [zs_other (by decide)])] at g
    exact g
  refine g_aload_n (i := 0) (by decide +kernel) rfl ?_
  refine g_getr f_Md_7 (by decide +kernel) (by omega) rfl rfl ?_
  refine g_sipush (a := 1916) (by decide +kernel) (by decide) ?_
  refine g_iload_n (i := 1) (by decide +kernel) rfl ?_
  refine g_iadd (by decide +kernel) ?_
  refine g_aload_n (i := 0) (by decide +kernel) rfl ?_
  refine g_iconst (a := 0) (by decide +kernel) ?_
  refine g_iload_n (i := 2) (by decide +kernel) rfl ?_
  refine g_iconst (a := 3) (by decide +kernel) ?_
  refine g_icmp_ne (off := 7) (tgt := 71) (by decide +kernel) (by decide) ⟨by omega, by omega⟩ ⟨by omega, by omega⟩ (fun h64 => ?_) (fun h64 => ?_)
  · refine g_sipush (a := 999) (by decide +kernel) (by decide) ?_
    refine g_cVI (st := _) (c_Md_takesNumber (q := A.q) hn h0 hn0 hR.1 hA.1 ⟨by decide, by decide⟩ ⟨by decide, by decide⟩) k_Md_takesNumber l_Md_253 (by decide +kernel) (by omega) rfl rfl rfl rfl (Nat.le_of_ble_eq_true rfl) (by decide) ⟨by decide, by decide⟩ ?_
    rintro a9 τ9 hT
    refine g_iast (j := 1916 + k) (by decide +kernel) (by omega) rfl (by omega) (by omega) (by decide) ?_
    refine g_retV (by decide +kernel) rfl ⟨by decide, by decide⟩ ?_
    show zRg _ _ _ _ _
    unfold zpT
    rcases hT with ⟨hc, ea, hk9⟩ | ⟨hc, hF⟩
    · have c2 : zTt b n0 A.q = 3 ∧ 0 ≤ zTs b n0 A.q ∧ zTs b n0 A.q ≤ (if h = 3 then 3 else 999) := ⟨hc.1, hc.2.1, by first | (rw [if_pos (by omega)]; exact hc.2.2) | (rw [if_neg (by omega)]; exact hc.2.2)⟩
      rw [if_neg (fun y => y c2)]
      have vr9 : 0 ≤ zTs b n0 A.q ∧ zTs b n0 A.q ≤ 999 := ⟨hc.2.1, by have := hc.2.2; omega⟩
      refine ⟨?_, (hA.m456 hh (by decide) vr9).tok (znx_r hA.1).2⟩
      have e5 : zs (zs A.D 4 k h) 5 k (-1) = zs A.D 4 k h := zs_id (by rw [zs_other (by decide)]; exact h5)
      rw [e5, ea]
      have g := (zRrK.nx hR hk9).putD (r := 6) (j := k) (v := zTs b n0 A.q) hG4 (by decide) (by decide) (by decide) k12
      unfold zRr
      rw [show zN (zAm (znx b n0 A.q) (zs (zs A.D 4 k h) 6 k (zTs b n0 A.q)) A.nm A.sn A.td A.op A.mk).D = zN (zAD A (zs A.D 4 k h)).D from zN_zs (by decide)]
      exact g
    · have c2 : ¬ (zTt b n0 A.q = 3 ∧ 0 ≤ zTs b n0 A.q ∧ zTs b n0 A.q ≤ (if h = 3 then 3 else 999)) := fun y => hc ⟨y.1, y.2.1, by first | (have := y.2.2; rw [if_pos (by omega)] at this; exact this) | (have := y.2.2; rw [if_neg (by omega)] at this; exact this)⟩
      rw [if_pos c2]
      exact hF.drf (by omega)
  · refine g_iconst (a := 3) (by decide +kernel) ?_
    refine g_goto (off := 6) (tgt := 74) (by decide +kernel) (by decide) ?_
    refine g_cVI (st := _) (c_Md_takesNumber (q := A.q) hn h0 hn0 hR.1 hA.1 ⟨by decide, by decide⟩ ⟨by decide, by decide⟩) k_Md_takesNumber l_Md_253 (by decide +kernel) (by omega) rfl rfl rfl rfl (Nat.le_of_ble_eq_true rfl) (by decide) ⟨by decide, by decide⟩ ?_
    rintro a9 τ9 hT
    refine g_iast (j := 1916 + k) (by decide +kernel) (by omega) rfl (by omega) (by omega) (by decide) ?_
    refine g_retV (by decide +kernel) rfl ⟨by decide, by decide⟩ ?_
    show zRg _ _ _ _ _
    unfold zpT
    rcases hT with ⟨hc, ea, hk9⟩ | ⟨hc, hF⟩
    · have c2 : zTt b n0 A.q = 3 ∧ 0 ≤ zTs b n0 A.q ∧ zTs b n0 A.q ≤ (if h = 3 then 3 else 999) := ⟨hc.1, hc.2.1, by first | (rw [if_pos (by omega)]; exact hc.2.2) | (rw [if_neg (by omega)]; exact hc.2.2)⟩
      rw [if_neg (fun y => y c2)]
      have vr9 : 0 ≤ zTs b n0 A.q ∧ zTs b n0 A.q ≤ 999 := ⟨hc.2.1, by have := hc.2.2; omega⟩
      refine ⟨?_, (hA.m456 hh (by decide) vr9).tok (znx_r hA.1).2⟩
      have e5 : zs (zs A.D 4 k h) 5 k (-1) = zs A.D 4 k h := zs_id (by rw [zs_other (by decide)]; exact h5)
      rw [e5, ea]
      have g := (zRrK.nx hR hk9).putD (r := 6) (j := k) (v := zTs b n0 A.q) hG4 (by decide) (by decide) (by decide) k12
      unfold zRr
      rw [show zN (zAm (znx b n0 A.q) (zs (zs A.D 4 k h) 6 k (zTs b n0 A.q)) A.nm A.sn A.td A.op A.mk).D = zN (zAD A (zs A.D 4 k h)).D from zN_zs (by decide)]
      exact g
    · have c2 : ¬ (zTt b n0 A.q = 3 ∧ 0 ≤ zTs b n0 A.q ∧ zTs b n0 A.q ≤ (if h = 3 then 3 else 999)) := fun y => hc ⟨y.1, y.2.1, by first | (have := y.2.2; rw [if_pos (by omega)] at this; exact this) | (have := y.2.2; rw [if_neg (by omega)] at this; exact this)⟩
      rw [if_pos c2]
      exact hF.drf (by omega)
theorem c_Md_readsStart {G : zG} {n : Nat} {σ : zSt} {b : Nat → Int} {n0 : Nat} {σ0 : zSt} {A : zAb} {k : Nat} {h : Int} (hn : 220 ≤ n) (h0 : zR0 b n0 σ0) (hn0 : n0 ≤ 600) (hA : zAi n0 A) (hk : A.mk = (k : Int)) (h5 : A.D 5 k = -1) (hh : 0 ≤ h ∧ h ≤ 3) (hR : zRr b n0 σ0 A σ)  : Gm G y_Md_readsStart m_Md_readsStart 4 0 0 [vr G 189, vi (k : Int), vi h] n SH σ (zV n SH (fun σ' => zRg b n0 σ0 (zpBt b n0 A k h) σ')) := by
  refine g_enter (L := [(0, _), (1, _), (2, _)]) (by decide) rfl rfl rfl (Nat.le_of_ble_eq_true rfl) (fun X => ?_)
  have hG := hA.2.1
  have hq := hA.1
  have k12 : k < 12 := by have := hA.2.2.2.1; have := hG.1; omega
  refine g_aload_n (i := 0) (by decide +kernel) rfl ?_
  refine g_getr f_Md_7 (by decide +kernel) (by omega) rfl rfl ?_
  refine g_sipush (a := 1892) (by decide +kernel) (by decide) ?_
  refine g_iload_n (i := 1) (by decide +kernel) rfl ?_
  refine g_iadd (by decide +kernel) ?_
  refine g_iload_n (i := 2) (by decide +kernel) rfl ?_
  refine g_iast (j := 1892 + k) (by decide +kernel) (by omega) rfl (by omega) (by omega) (by decide) ?_
  refine g_iload_n (i := 2) (by decide +kernel) rfl ?_
  refine g_iconst (a := 1) (by decide +kernel) ?_
  refine g_icmp_eq (off := 8) (tgt := 21) (by decide +kernel) (by decide) ⟨by omega, by omega⟩ ⟨by omega, by omega⟩ (fun h13 => ?_) (fun h13 => ?_)
  · obtain ⟨σ1, e1⟩ : ∃ σ1, σ1 = zs σ 190 (1892 + k) h := ⟨_, rfl⟩
    refine g_eq (σ' := σ1) ?_ e1.symm rfl rfl
    have hQ : zRq0 b n0 σ0 A.q σ1 := by rw [e1]; exact hR.1.drf (by omega)
    have h14 := hQ.1
    have ht := hQ.2.1
    have tr := zTt_r (b := b) (n0 := n0) (q := A.q)
    have sr := zsrt_r (zTt b n0 A.q)
    have e18 := ht.2.1
    have br := zTb_r (b := b) hq
    refine g_aload_n (i := 0) (by decide +kernel) rfl ?_
    refine g_aload_n (i := 0) (by decide +kernel) rfl ?_
    refine g_cVI (st := _) (c_Md_isName hn h0 hn0 hQ hq) k_Md_isName l_Md_259 (by decide +kernel) (by omega) rfl rfl rfl rfl (Nat.le_of_ble_eq_true rfl) (by decide) ⟨by decide, by decide⟩ ?_
    rintro a9 σ9 ⟨ha9, hσ9⟩
    obtain rfl := hσ9.symm
    refine g_iconst (a := 2) (by decide +kernel) ?_
    refine g_cVV (st := _) (c_Md_wants hn ⟨by omega, by omega⟩ (fun _ => ⟨by omega, by omega⟩) ⟨by decide, by decide⟩ (by omega)) k_Md_wants l_Md_243 (by decide +kernel) (by omega) rfl rfl rfl rfl (Nat.le_of_ble_eq_true rfl) (by decide) ⟨by decide, by decide⟩ ?_
    rintro υ hυ
    have h12 : h = 1 ∨ h = 2 := by omega
    rcases ha9 with ⟨hi0, e9⟩ | ⟨hi0, e9⟩
    case inr =>
      have e3 : υ = zfl σ1 2 := by rw [hυ, if_pos e9]
      have er : zpBt b n0 A k h = .inl (zcs b n0 A.q, A.q) := by
        unfold zpBt
        rw [if_pos h12, if_pos hi0]
      have hF : zRft σ0 (zcs b n0 A.q, A.q) υ := by
        rw [e3]
        have g := hQ.fl (k := 2) (by decide)
        rw [if_pos rfl] at g
        exact g
      exact t_Md_readsStart30F hn hF er k12 hh (by rw [e3, zfl_o (by decide)]; omega)
    obtain rfl : σ1 = υ := by rw [hυ, if_neg (by omega)]
    have q0 : A.q < n0 := (zTt_w hi0.1).1
    have e17 : σ1 189 17 = (zTb b n0 A.q : Int) := by rw [ht.2.2.1, if_neg (by omega)]
    have nme : zNme (zTs b n0 A.q) (σ1 189 21) := by rw [ht.2.2.2.1 hi0.1]; exact zTs_nme hi0.1 hi0.2.1
    refine g_aload_n (i := 0) (by decide +kernel) rfl ?_
    refine g_getr f_Md_79 (by decide +kernel) (by omega) rfl rfl ?_
    refine g_iload_n (i := 1) (by decide +kernel) rfl ?_
    refine g_aload_n (i := 0) (by decide +kernel) rfl ?_
    refine g_getl f_Md_219 (by decide +kernel) (by omega) rfl rfl ?_
    refine g_last (j := k) (by decide +kernel) (by omega) rfl rfl (by omega) (by decide) ?_
    refine g_aload_n (i := 0) (by decide +kernel) rfl ?_
    refine g_geti f_Md_230 (by decide +kernel) (by omega) rfl rfl ?_
    refine g_if_ne (off := 7) (tgt := 51) (by decide +kernel) (by decide) ⟨by rw [zs_other (by decide)]; omega, by rw [zs_other (by decide)]; omega⟩ (fun h44 => ?_) (fun h44 => ?_)
    · first
        | (exfalso
           have h44b := h44
           rw [zs_other (by decide)] at h44b
           exact h44b h14)
        | (have hE : zRr b n0 σ0 (zAm (znx b n0 A.q) (zs A.D 4 k h) A.nm (zu A.sn k (zTs b n0 A.q)) A.td A.op A.mk) υ9 := zRrK.nx hU hk9
           have sw := zTs_wr hi0.1 hi0.2.1
           have er : zpBt b n0 A k h = zpT b n0 (zAm (znx b n0 A.q) A.D A.nm (zu A.sn k (zTs b n0 A.q)) A.td A.op A.mk) k h := by
             unfold zpBt
             rw [if_pos h12, if_neg (fun y => y hi0)]
           rw [er]
           refine t_Md_readsStart51 (A := (zAm (znx b n0 A.q) A.D A.nm (zu A.sn k (zTs b n0 A.q)) A.td A.op A.mk)) hn h0 hn0 ⟨(znx_r hq).2, hG, hA.2.2.1, hA.2.2.2.1, fun i hi => ⟨(hA.2.2.2.2.1 i hi).1, ?_⟩, hA.2.2.2.2.2⟩ hk h5 hh hE
           exact zu_in (lo := 0) (hi := 1099511627775) ⟨(hA.2.2.2.2.1 i hi).2.1, by have := (hA.2.2.2.2.1 i hi).2.2; omega⟩ ⟨by omega, by omega⟩ |> fun z => ⟨z.1, by have := z.2; show zu A.sn k (zTs b n0 A.q) i < _; omega⟩)
        | (have er : zpBt b n0 A k h = zpT b n0 A k h := by
             unfold zpBt
             rw [if_neg (by omega)]
           rw [er]
           exact t_Md_readsStart51 hn h0 hn0 hA hk h5 hh (hR.how hG k12 (decide_eq_false (by omega))))
    · refine g_aload_n (i := 0) (by decide +kernel) rfl ?_
      obtain ⟨υ, eυ⟩ : ∃ υ, υ = zs σ1 199 k (σ1 189 21) := ⟨_, rfl⟩
      refine g_eq (σ' := υ) ?_ eυ.symm rfl rfl
      have u189 : υ 189 = σ1 189 := by rw [eυ]; exact zs_other (by decide)
      have hU : zRr b n0 σ0 (zAm A.q (zs A.D 4 k h) A.nm (zu A.sn k (zTs b n0 A.q)) A.td A.op A.mk) υ := by
        rw [eυ, e1]
        exact hR.how2 hG k12 (by rw [← e1]; exact nme)
      have uf : zFrM σ0 υ := hU.1.2.2.2
      refine g_cVV (st := _) (c_Md_reads hn (h0.bm uf) (h0.end uf) hn0 br.2 (by rw [u189]; exact e17)) k_Md_reads l_Md_247 (by decide +kernel) (by omega) rfl rfl rfl rfl (Nat.le_of_ble_eq_true rfl) (by decide) ⟨by decide, by decide⟩ ?_
      rintro υ9 hk9
      first
        | (exfalso
           have h44b := h44
           rw [zs_other (by decide)] at h44b
           exact h44b h14)
        | (have hE : zRr b n0 σ0 (zAm (znx b n0 A.q) (zs A.D 4 k h) A.nm (zu A.sn k (zTs b n0 A.q)) A.td A.op A.mk) υ9 := zRrK.nx hU hk9
           have sw := zTs_wr hi0.1 hi0.2.1
           have er : zpBt b n0 A k h = zpT b n0 (zAm (znx b n0 A.q) A.D A.nm (zu A.sn k (zTs b n0 A.q)) A.td A.op A.mk) k h := by
             unfold zpBt
             rw [if_pos h12, if_neg (fun y => y hi0)]
           rw [er]
           refine t_Md_readsStart51 (A := (zAm (znx b n0 A.q) A.D A.nm (zu A.sn k (zTs b n0 A.q)) A.td A.op A.mk)) hn h0 hn0 ⟨(znx_r hq).2, hG, hA.2.2.1, hA.2.2.2.1, fun i hi => ⟨(hA.2.2.2.2.1 i hi).1, ?_⟩, hA.2.2.2.2.2⟩ hk h5 hh hE
           exact zu_in (lo := 0) (hi := 1099511627775) ⟨(hA.2.2.2.2.1 i hi).2.1, by have := (hA.2.2.2.2.1 i hi).2.2; omega⟩ ⟨by omega, by omega⟩ |> fun z => ⟨z.1, by have := z.2; show zu A.sn k (zTs b n0 A.q) i < _; omega⟩)
        | (have er : zpBt b n0 A k h = zpT b n0 A k h := by
             unfold zpBt
             rw [if_neg (by omega)]
           rw [er]
           exact t_Md_readsStart51 hn h0 hn0 hA hk h5 hh (hR.how hG k12 (decide_eq_false (by omega))))
  · refine g_iload_n (i := 2) (by decide +kernel) rfl ?_
    refine g_iconst (a := 2) (by decide +kernel) ?_
    refine g_icmp_ne (off := 33) (tgt := 51) (by decide +kernel) (by decide) ⟨by omega, by omega⟩ ⟨by omega, by omega⟩ (fun h18 => ?_) (fun h18 => ?_)
    · first
        | (exfalso
           have h44b := h44
           rw [zs_other (by decide)] at h44b
           exact h44b h14)
        | (have hE : zRr b n0 σ0 (zAm (znx b n0 A.q) (zs A.D 4 k h) A.nm (zu A.sn k (zTs b n0 A.q)) A.td A.op A.mk) υ9 := zRrK.nx hU hk9
           have sw := zTs_wr hi0.1 hi0.2.1
           have er : zpBt b n0 A k h = zpT b n0 (zAm (znx b n0 A.q) A.D A.nm (zu A.sn k (zTs b n0 A.q)) A.td A.op A.mk) k h := by
             unfold zpBt
             rw [if_pos h12, if_neg (fun y => y hi0)]
           rw [er]
           refine t_Md_readsStart51 (A := (zAm (znx b n0 A.q) A.D A.nm (zu A.sn k (zTs b n0 A.q)) A.td A.op A.mk)) hn h0 hn0 ⟨(znx_r hq).2, hG, hA.2.2.1, hA.2.2.2.1, fun i hi => ⟨(hA.2.2.2.2.1 i hi).1, ?_⟩, hA.2.2.2.2.2⟩ hk h5 hh hE
           exact zu_in (lo := 0) (hi := 1099511627775) ⟨(hA.2.2.2.2.1 i hi).2.1, by have := (hA.2.2.2.2.1 i hi).2.2; omega⟩ ⟨by omega, by omega⟩ |> fun z => ⟨z.1, by have := z.2; show zu A.sn k (zTs b n0 A.q) i < _; omega⟩)
        | (have er : zpBt b n0 A k h = zpT b n0 A k h := by
             unfold zpBt
             rw [if_neg (by omega)]
           rw [er]
           exact t_Md_readsStart51 hn h0 hn0 hA hk h5 hh (hR.how hG k12 (decide_eq_false (by omega))))
    · obtain ⟨σ1, e1⟩ : ∃ σ1, σ1 = zs σ 190 (1892 + k) h := ⟨_, rfl⟩
      refine g_eq (σ' := σ1) ?_ e1.symm rfl rfl
      have hQ : zRq0 b n0 σ0 A.q σ1 := by rw [e1]; exact hR.1.drf (by omega)
      have h14 := hQ.1
      have ht := hQ.2.1
      have tr := zTt_r (b := b) (n0 := n0) (q := A.q)
      have sr := zsrt_r (zTt b n0 A.q)
      have e18 := ht.2.1
      have br := zTb_r (b := b) hq
      refine g_aload_n (i := 0) (by decide +kernel) rfl ?_
      refine g_aload_n (i := 0) (by decide +kernel) rfl ?_
      refine g_cVI (st := _) (c_Md_isName hn h0 hn0 hQ hq) k_Md_isName l_Md_259 (by decide +kernel) (by omega) rfl rfl rfl rfl (Nat.le_of_ble_eq_true rfl) (by decide) ⟨by decide, by decide⟩ ?_
      rintro a9 σ9 ⟨ha9, hσ9⟩
      obtain rfl := hσ9.symm
      refine g_iconst (a := 2) (by decide +kernel) ?_
      refine g_cVV (st := _) (c_Md_wants hn ⟨by omega, by omega⟩ (fun _ => ⟨by omega, by omega⟩) ⟨by decide, by decide⟩ (by omega)) k_Md_wants l_Md_243 (by decide +kernel) (by omega) rfl rfl rfl rfl (Nat.le_of_ble_eq_true rfl) (by decide) ⟨by decide, by decide⟩ ?_
      rintro υ hυ
      have h12 : h = 1 ∨ h = 2 := by omega
      rcases ha9 with ⟨hi0, e9⟩ | ⟨hi0, e9⟩
      case inr =>
        have e3 : υ = zfl σ1 2 := by rw [hυ, if_pos e9]
        have er : zpBt b n0 A k h = .inl (zcs b n0 A.q, A.q) := by
          unfold zpBt
          rw [if_pos h12, if_pos hi0]
        have hF : zRft σ0 (zcs b n0 A.q, A.q) υ := by
          rw [e3]
          have g := hQ.fl (k := 2) (by decide)
          rw [if_pos rfl] at g
          exact g
        exact t_Md_readsStart30F hn hF er k12 hh (by rw [e3, zfl_o (by decide)]; omega)
      obtain rfl : σ1 = υ := by rw [hυ, if_neg (by omega)]
      have q0 : A.q < n0 := (zTt_w hi0.1).1
      have e17 : σ1 189 17 = (zTb b n0 A.q : Int) := by rw [ht.2.2.1, if_neg (by omega)]
      have nme : zNme (zTs b n0 A.q) (σ1 189 21) := by rw [ht.2.2.2.1 hi0.1]; exact zTs_nme hi0.1 hi0.2.1
      refine g_aload_n (i := 0) (by decide +kernel) rfl ?_
      refine g_getr f_Md_79 (by decide +kernel) (by omega) rfl rfl ?_
      refine g_iload_n (i := 1) (by decide +kernel) rfl ?_
      refine g_aload_n (i := 0) (by decide +kernel) rfl ?_
      refine g_getl f_Md_219 (by decide +kernel) (by omega) rfl rfl ?_
      refine g_last (j := k) (by decide +kernel) (by omega) rfl rfl (by omega) (by decide) ?_
      refine g_aload_n (i := 0) (by decide +kernel) rfl ?_
      refine g_geti f_Md_230 (by decide +kernel) (by omega) rfl rfl ?_
      refine g_if_ne (off := 7) (tgt := 51) (by decide +kernel) (by decide) ⟨by rw [zs_other (by decide)]; omega, by rw [zs_other (by decide)]; omega⟩ (fun h44 => ?_) (fun h44 => ?_)
      · first
          | (exfalso
             have h44b := h44
             rw [zs_other (by decide)] at h44b
             exact h44b h14)
          | (have hE : zRr b n0 σ0 (zAm (znx b n0 A.q) (zs A.D 4 k h) A.nm (zu A.sn k (zTs b n0 A.q)) A.td A.op A.mk) υ9 := zRrK.nx hU hk9
             have sw := zTs_wr hi0.1 hi0.2.1
             have er : zpBt b n0 A k h = zpT b n0 (zAm (znx b n0 A.q) A.D A.nm (zu A.sn k (zTs b n0 A.q)) A.td A.op A.mk) k h := by
               unfold zpBt
               rw [if_pos h12, if_neg (fun y => y hi0)]
             rw [er]
             refine t_Md_readsStart51 (A := (zAm (znx b n0 A.q) A.D A.nm (zu A.sn k (zTs b n0 A.q)) A.td A.op A.mk)) hn h0 hn0 ⟨(znx_r hq).2, hG, hA.2.2.1, hA.2.2.2.1, fun i hi => ⟨(hA.2.2.2.2.1 i hi).1, ?_⟩, hA.2.2.2.2.2⟩ hk h5 hh hE
             exact zu_in (lo := 0) (hi := 1099511627775) ⟨(hA.2.2.2.2.1 i hi).2.1, by have := (hA.2.2.2.2.1 i hi).2.2; omega⟩ ⟨by omega, by omega⟩ |> fun z => ⟨z.1, by have := z.2; show zu A.sn k (zTs b n0 A.q) i < _; omega⟩)
          | (have er : zpBt b n0 A k h = zpT b n0 A k h := by
               unfold zpBt
               rw [if_neg (by omega)]
             rw [er]
             exact t_Md_readsStart51 hn h0 hn0 hA hk h5 hh (hR.how hG k12 (decide_eq_false (by omega))))
      · refine g_aload_n (i := 0) (by decide +kernel) rfl ?_
        obtain ⟨υ, eυ⟩ : ∃ υ, υ = zs σ1 199 k (σ1 189 21) := ⟨_, rfl⟩
        refine g_eq (σ' := υ) ?_ eυ.symm rfl rfl
        have u189 : υ 189 = σ1 189 := by rw [eυ]; exact zs_other (by decide)
        have hU : zRr b n0 σ0 (zAm A.q (zs A.D 4 k h) A.nm (zu A.sn k (zTs b n0 A.q)) A.td A.op A.mk) υ := by
          rw [eυ, e1]
          exact hR.how2 hG k12 (by rw [← e1]; exact nme)
        have uf : zFrM σ0 υ := hU.1.2.2.2
        refine g_cVV (st := _) (c_Md_reads hn (h0.bm uf) (h0.end uf) hn0 br.2 (by rw [u189]; exact e17)) k_Md_reads l_Md_247 (by decide +kernel) (by omega) rfl rfl rfl rfl (Nat.le_of_ble_eq_true rfl) (by decide) ⟨by decide, by decide⟩ ?_
        rintro υ9 hk9
        first
          | (exfalso
             have h44b := h44
             rw [zs_other (by decide)] at h44b
             exact h44b h14)
          | (have hE : zRr b n0 σ0 (zAm (znx b n0 A.q) (zs A.D 4 k h) A.nm (zu A.sn k (zTs b n0 A.q)) A.td A.op A.mk) υ9 := zRrK.nx hU hk9
             have sw := zTs_wr hi0.1 hi0.2.1
             have er : zpBt b n0 A k h = zpT b n0 (zAm (znx b n0 A.q) A.D A.nm (zu A.sn k (zTs b n0 A.q)) A.td A.op A.mk) k h := by
               unfold zpBt
               rw [if_pos h12, if_neg (fun y => y hi0)]
             rw [er]
             refine t_Md_readsStart51 (A := (zAm (znx b n0 A.q) A.D A.nm (zu A.sn k (zTs b n0 A.q)) A.td A.op A.mk)) hn h0 hn0 ⟨(znx_r hq).2, hG, hA.2.2.1, hA.2.2.2.1, fun i hi => ⟨(hA.2.2.2.2.1 i hi).1, ?_⟩, hA.2.2.2.2.2⟩ hk h5 hh hE
             exact zu_in (lo := 0) (hi := 1099511627775) ⟨(hA.2.2.2.2.1 i hi).2.1, by have := (hA.2.2.2.2.1 i hi).2.2; omega⟩ ⟨by omega, by omega⟩ |> fun z => ⟨z.1, by have := z.2; show zu A.sn k (zTs b n0 A.q) i < _; omega⟩)
          | (have er : zpBt b n0 A k h = zpT b n0 A k h := by
               unfold zpBt
               rw [if_neg (by omega)]
             rw [er]
             exact t_Md_readsStart51 hn h0 hn0 hA hk h5 hh (hR.how hG k12 (decide_eq_false (by omega))))
