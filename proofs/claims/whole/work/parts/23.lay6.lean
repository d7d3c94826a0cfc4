/-- what measure leaves: the layout of the Show -/
def zMeas (σ σ' : zSt) (b c : Nat) : Prop := (∀ a, (a < c ∨ c + 6 ≤ a) → σ' a = σ a) ∧ zLay (zSv σ b) (σ' (c + 1)) (σ' (c + 2)) ∧
  (∀ k, k < (σ b 0).toNat → σ' (c + 3) k = zBe (zSv σ b) (σ' (c + 2)) k ∧ σ' (c + 4) k = (zBs (zSv σ b) 12 k : Int) ∧ σ' (c + 5) k = (if zOk (zSv σ b) k = true then 1 else 0)) ∧
  (∀ k, k < 12 → σ' (c + 5) k = 0 ∨ σ' (c + 5) k = 1) ∧ σ' c 5 = (if σ b 0 = 0 then 0 else σ (b + 6) 0 + σ' (c + 2) 0) ∧ ∀ j, j ≠ 5 → σ' c j = σ c j
/-- measured from i on -/
def zMi (σ τ : zSt) (b c i : Nat) (d : Nat → Nat) : Prop := (∀ a, (a < c ∨ c + 6 ≤ a) → τ a = σ a) ∧ zLayFrom (zSv σ b) d (τ (c + 1)) (τ (c + 2)) i ∧
  (∀ k, k < (σ b 0).toNat → (i : Int) ≤ σ (b + 2) k → τ (c + 3) k = zBe (zSv σ b) (τ (c + 2)) k ∧ τ (c + 4) k = (zBs (zSv σ b) 12 k : Int) ∧ τ (c + 5) k = (if zOk (zSv σ b) k = true then 1 else 0)) ∧
  (∀ k, k < 12 → τ (c + 5) k = 0 ∨ τ (c + 5) k = 1) ∧ τ c = zu (σ c) 5 0
theorem zMi_in {σ τ : zSt} {b c i : Nat} {d : Nat → Nat} (h : zMi σ τ b c i d) (hbc : c + 6 ≤ b ∨ b + 10 ≤ c) : ∀ r, r < 10 → τ (b + r) = σ (b + r) := fun r hr => h.1 _ (by omega)
theorem zBs_own {S : zSt} {k : Nat} (h : zby (S 4 k) = false) : ∀ f, zBs S f k = k
  | 0 => rfl
  | f + 1 => by rw [zBs_s, if_neg (by rw [h]; decide)]
/-- the rows of the ints that a Show's own methods ask stay -/
theorem zSv_fun {σ τ : zSt} {b : Nat} (h : ∀ r, r < 10 → τ (b + r) = σ (b + r)) : ∀ r, r < 10 → zSv τ b r = zSv σ b r := h
theorem zch_eq {S T : zSt} (h : ∀ r, r < 10 → T r = S r) (q p : Int) : zch T q p = zch S q p := by
  unfold zch zN; rw [h 0 (by decide), h 2 (by decide), h 3 (by decide)]
theorem zEn_eq {S T : zSt} {ac : Nat → Int} (h : ∀ r, r < 10 → T r = S r) (q : Nat) : ∀ p, zEn T ac q p = zEn S ac q p
  | 0 => rfl
  | p + 1 => by rw [zEn_s, zEn_s, zch_eq h, zEn_eq h q p, h 6 (by decide)]
theorem zMx_eq {S T : zSt} {ac : Nat → Int} (h : ∀ r, r < 10 → T r = S r) (q : Nat) : ∀ p, zMx T ac q p = zMx S ac q p
  | 0 => rfl
  | p + 1 => by rw [zMx_s, zMx_s, zMx_eq h q p, h 2 (by decide), zOp_eq h, zBg_eq h]
/-- the step: what is within k is laid, then k's own lengths -/
def zIns (S : zSt) (ac : Nat → Int) (k : Nat) : Int := if S 1 k = 2 then zEn S ac k 12 else zMx S ac k (zN S)
def zMst (σ τ : zSt) (b c k : Nat) : zSt := zs (zs τ (c + 1) k (zSi (zSv σ b) (τ (c + 2)) k)) (c + 2) k (zAc (zSv σ b) (zSi (zSv σ b) (τ (c + 2)) k) k)
theorem t_La_measure {G : zG} {X : zX} {n : Nat} {σ : zSt} {b c : Nat} (hn : 189 ≤ n) (hL : zLa SH c) (hS : zSw SH b) (hg : zGood σ b) (hbc : c + 6 ≤ b ∨ b + 10 ≤ c) {k : Nat} {d r : Nat → Nat} {τ : zSt} {post : zPost} (hv : zVal (zSv σ b) d r) (hk : k < (σ b 0).toNat) (u1 : ∀ r, r < 10 → τ (b + r) = σ (b + r)) (bd : 0 ≤ zSi (zSv σ b) (τ (c + 2)) k ∧ zSi (zSv σ b) (τ (c + 2)) k ≤ 80109810) (kk : Go G X m_La_measure (3, 0, 0, 0, 0) n SH (zMst σ τ b c k) 12 [(0, vr G c), (1, vr G b), (2, vi ((k : Int) - 1))] [] post) : Go G X m_La_measure (3, 0, 0, 0, 0) n SH τ 41 [(0, vr G c), (1, vr G b), (2, vi (k : Int))] [vi (zIns (zSv σ b) (τ (c + 2)) k)] post := by
  have hb := hS.1
  have hcc := hL.1
  have hc := hg.1
  have tg := zGood_eq u1 hg
  have hk12 : k < 12 := by omega
  have mk := (hv.2.2.1 k hk).1
  have m0 : τ (b + 7) (9 * k + 0) = zSv σ b 7 (9 * k) := by rw [u1 7 (by decide)]; rfl
  have m1 : τ (b + 7) (9 * k + 1) = zSv σ b 7 (9 * k + 1) := by rw [u1 7 (by decide)]; rfl
  have m2 : τ (b + 7) (9 * k + 2) = zSv σ b 7 (9 * k + 2) := by rw [u1 7 (by decide)]; rfl
  have k1 : τ (b + 1) k = zSv σ b 1 k := by rw [u1 1 (by decide)]; rfl
  obtain ⟨q0, q1, q2, q3, q4⟩ := mk
  have kd := hg.2.1 k hk12
  have k1b : zSv σ b 1 k = σ (b + 1) k := rfl
  have mulb : zSi (zSv σ b) (τ (c + 2)) k * zSv σ b 7 (9 * k + 2) ≤ zSi (zSv σ b) (τ (c + 2)) k * 9 := Int.mul_le_mul_of_nonneg_left q2.2 bd.1
  have mul0 : 0 ≤ zSi (zSv σ b) (τ (c + 2)) k * zSv σ b 7 (9 * k + 2) := Int.mul_nonneg bd.1 (by omega)
  refine g_istore_n (i := 3) (L' := [(0, _), (1, _), (2, _), (3, _)]) (by decide +kernel) rfl rfl ?_
  refine g_aload_n (i := 1) (by decide +kernel) rfl ?_
  refine g_iload_n (i := 2) (by decide +kernel) rfl ?_
  refine g_iconst (a := 0) (by decide +kernel) ?_
  refine g_cVI (st := []) (c_Sh_markOf (k := k) (w := 0) hn hS hk12 (by decide)) k_Sh_markOf l_La_47 (by decide +kernel) (by omega) hS.a0 rfl rfl rfl (Nat.le_of_ble_eq_true rfl) (by decide) ⟨by decide, by decide⟩ ?_
  rintro a σ1 ⟨ea, hσ⟩
  obtain rfl := hσ.symm
  rw [m0] at ea
  subst ea
  refine g_istore (i := 4) (L' := [(0, _), (1, _), (2, _), (3, _), (4, _)]) (by decide +kernel) rfl rfl ?_
  refine g_aload_n (i := 0) (by decide +kernel) rfl ?_
  refine g_getr f_La_9 (by decide +kernel) (by omega) hL.a0 rfl ?_
  refine g_iload_n (i := 2) (by decide +kernel) rfl ?_
  refine g_iload (i := 4) (by decide +kernel) rfl ?_
  refine g_if_le (off := 8) (tgt := 65) (by decide +kernel) (by decide) ⟨by omega, by omega⟩ (fun h57 => ?_) (fun h57 => ?_)
  · refine g_aload_n (i := 1) (by decide +kernel) rfl ?_
    refine g_getr f_La_37 (by decide +kernel) (by omega) hS.a0 rfl ?_
    refine g_iload_n (i := 2) (by decide +kernel) rfl ?_
    refine g_iald (j := k) (by decide +kernel) (by omega) hS.a1 rfl (by omega) (by decide) ?_
    refine g_if_ne (off := 8) (tgt := 79) (by decide +kernel) (by decide) ⟨by omega, by omega⟩ (fun h71 => ?_) (fun h71 => ?_)
    · have hsi : zIns (zSv σ b) (τ (c + 2)) k = zSi (zSv σ b) (τ (c + 2)) k := by unfold zSi; rw [if_neg (show ¬ 0 < zSv σ b 7 (9 * k) by omega), if_neg (show ¬ zSv σ b 1 k = 0 by omega)]; rfl
      refine g_iload_n (i := 3) (by decide +kernel) rfl ?_
      refine g_iast (j := k) (by decide +kernel) (by omega) hL.a1 rfl (by omega) (by decide) ?_
      refine g_aload_n (i := 0) (by decide +kernel) rfl ?_
      refine g_getr f_La_15 (by decide +kernel) (by omega) hL.a0 rfl ?_
      refine g_iload_n (i := 2) (by decide +kernel) rfl ?_
      refine g_aload_n (i := 0) (by decide +kernel) rfl ?_
      refine g_aload_n (i := 1) (by decide +kernel) rfl ?_
      refine g_iload_n (i := 2) (by decide +kernel) rfl ?_
      have hx : (zs τ (c + 1) k (zIns (zSv σ b) (τ (c + 2)) k)) = zs τ (c + 1) k (zSi (zSv σ b) (τ (c + 2)) k) := by rw [hsi]
      rw [hx]
      have v1 : ∀ r, r < 10 → zs τ (c + 1) k (zSi (zSv σ b) (τ (c + 2)) k) (b + r) = σ (b + r) := fun r hr => by rw [zs_other (by omega)]; exact u1 r hr
      refine g_cVI (st := [vi (k : Int), vr G (c + 2)]) (c_La_activeOf (k := k) hn hL hS (zGood_eq v1 hg) hbc hk12 (by rw [v1 7 (by decide)]; exact q1.1) (by rw [zs_eq, v1 7 (by decide)]; exact mul0) (by rw [zs_eq, v1 7 (by decide)]; show zSi (zSv σ b) (τ (c + 2)) k * zSv σ b 7 (9 * k + 2) ≤ 2000000000; omega)) k_La_activeOf l_La_51 (by decide +kernel) (by omega) hL.a0 rfl rfl rfl (Nat.le_of_ble_eq_true rfl) (by decide) ⟨by decide, by decide⟩ ?_
      rintro a σ1 ⟨ea, hσ⟩
      obtain rfl := hσ.symm
      have ea : a = zAc (zSv σ b) (zSi (zSv σ b) (τ (c + 2)) k) k := by
        rw [ea, zs_eq]
        unfold zAc zAcW
        rw [show zSv (zs τ (c + 1) k (zSi (zSv σ b) (τ (c + 2)) k)) b 7 = zSv σ b 7 from v1 7 (by decide)]
      subst ea
      refine g_iast (j := k) (by decide +kernel) (by omega) hL.a2 rfl (by omega) (by decide) ?_
      refine g_iinc (i := 2) (b := -1) (L' := [(0, _), (1, _), (2, _), (3, _), (4, _)]) (by decide +kernel) rfl rfl rfl ?_
      refine g_goto (off := -84) (tgt := 12) (by decide +kernel) (by decide) ?_
      refine g_less [0, 1, 2] rfl ?_
      exact kk
    · have hsi : 10 = zSi (zSv σ b) (τ (c + 2)) k := by unfold zSi; rw [if_neg (by omega), if_pos (by omega)]
      refine g_bipush (a := 10) (by decide +kernel) (by decide) ?_
      refine g_goto (off := 4) (tgt := 80) (by decide +kernel) (by decide) ?_
      refine g_iast (j := k) (by decide +kernel) (by omega) hL.a1 rfl (by omega) (by decide) ?_
      refine g_aload_n (i := 0) (by decide +kernel) rfl ?_
      refine g_getr f_La_15 (by decide +kernel) (by omega) hL.a0 rfl ?_
      refine g_iload_n (i := 2) (by decide +kernel) rfl ?_
      refine g_aload_n (i := 0) (by decide +kernel) rfl ?_
      refine g_aload_n (i := 1) (by decide +kernel) rfl ?_
      refine g_iload_n (i := 2) (by decide +kernel) rfl ?_
      have hx : (zs τ (c + 1) k (10)) = zs τ (c + 1) k (zSi (zSv σ b) (τ (c + 2)) k) := by rw [hsi]
      rw [hx]
      have v1 : ∀ r, r < 10 → zs τ (c + 1) k (zSi (zSv σ b) (τ (c + 2)) k) (b + r) = σ (b + r) := fun r hr => by rw [zs_other (by omega)]; exact u1 r hr
      refine g_cVI (st := [vi (k : Int), vr G (c + 2)]) (c_La_activeOf (k := k) hn hL hS (zGood_eq v1 hg) hbc hk12 (by rw [v1 7 (by decide)]; exact q1.1) (by rw [zs_eq, v1 7 (by decide)]; exact mul0) (by rw [zs_eq, v1 7 (by decide)]; show zSi (zSv σ b) (τ (c + 2)) k * zSv σ b 7 (9 * k + 2) ≤ 2000000000; omega)) k_La_activeOf l_La_51 (by decide +kernel) (by omega) hL.a0 rfl rfl rfl (Nat.le_of_ble_eq_true rfl) (by decide) ⟨by decide, by decide⟩ ?_
      rintro a σ1 ⟨ea, hσ⟩
      obtain rfl := hσ.symm
      have ea : a = zAc (zSv σ b) (zSi (zSv σ b) (τ (c + 2)) k) k := by
        rw [ea, zs_eq]
        unfold zAc zAcW
        rw [show zSv (zs τ (c + 1) k (zSi (zSv σ b) (τ (c + 2)) k)) b 7 = zSv σ b 7 from v1 7 (by decide)]
      subst ea
      refine g_iast (j := k) (by decide +kernel) (by omega) hL.a2 rfl (by omega) (by decide) ?_
      refine g_iinc (i := 2) (b := -1) (L' := [(0, _), (1, _), (2, _), (3, _), (4, _)]) (by decide +kernel) rfl rfl rfl ?_
      refine g_goto (off := -84) (tgt := 12) (by decide +kernel) (by decide) ?_
      refine g_less [0, 1, 2] rfl ?_
      exact kk
  · have hsi : zSv σ b 7 (9 * k) = zSi (zSv σ b) (τ (c + 2)) k := by unfold zSi; rw [if_pos h57]
    refine g_iload (i := 4) (by decide +kernel) rfl ?_
    refine g_goto (off := 18) (tgt := 80) (by decide +kernel) (by decide) ?_
    refine g_iast (j := k) (by decide +kernel) (by omega) hL.a1 rfl (by omega) (by decide) ?_
    refine g_aload_n (i := 0) (by decide +kernel) rfl ?_
    refine g_getr f_La_15 (by decide +kernel) (by omega) hL.a0 rfl ?_
    refine g_iload_n (i := 2) (by decide +kernel) rfl ?_
    refine g_aload_n (i := 0) (by decide +kernel) rfl ?_
    refine g_aload_n (i := 1) (by decide +kernel) rfl ?_
    refine g_iload_n (i := 2) (by decide +kernel) rfl ?_
    have hx : (zs τ (c + 1) k (zSv σ b 7 (9 * k))) = zs τ (c + 1) k (zSi (zSv σ b) (τ (c + 2)) k) := by rw [hsi]
    rw [hx]
    have v1 : ∀ r, r < 10 → zs τ (c + 1) k (zSi (zSv σ b) (τ (c + 2)) k) (b + r) = σ (b + r) := fun r hr => by rw [zs_other (by omega)]; exact u1 r hr
    refine g_cVI (st := [vi (k : Int), vr G (c + 2)]) (c_La_activeOf (k := k) hn hL hS (zGood_eq v1 hg) hbc hk12 (by rw [v1 7 (by decide)]; exact q1.1) (by rw [zs_eq, v1 7 (by decide)]; exact mul0) (by rw [zs_eq, v1 7 (by decide)]; show zSi (zSv σ b) (τ (c + 2)) k * zSv σ b 7 (9 * k + 2) ≤ 2000000000; omega)) k_La_activeOf l_La_51 (by decide +kernel) (by omega) hL.a0 rfl rfl rfl (Nat.le_of_ble_eq_true rfl) (by decide) ⟨by decide, by decide⟩ ?_
    rintro a σ1 ⟨ea, hσ⟩
    obtain rfl := hσ.symm
    have ea : a = zAc (zSv σ b) (zSi (zSv σ b) (τ (c + 2)) k) k := by
      rw [ea, zs_eq]
      unfold zAc zAcW
      rw [show zSv (zs τ (c + 1) k (zSi (zSv σ b) (τ (c + 2)) k)) b 7 = zSv σ b 7 from v1 7 (by decide)]
    subst ea
    refine g_iast (j := k) (by decide +kernel) (by omega) hL.a2 rfl (by omega) (by decide) ?_
    refine g_iinc (i := 2) (b := -1) (L' := [(0, _), (1, _), (2, _), (3, _), (4, _)]) (by decide +kernel) rfl rfl rfl ?_
    refine g_goto (off := -84) (tgt := 12) (by decide +kernel) (by decide) ?_
    refine g_less [0, 1, 2] rfl ?_
    exact kk
theorem zVal_eq {S T : zSt} {d r : Nat → Nat} (h : ∀ r, r < 10 → T r = S r) (hv : zVal S d r) : zVal T d r := by
  unfold zVal zDp zMk zPar zN at *
  simp only [zch_eq h, h 0 (by decide), h 1 (by decide), h 2 (by decide), h 3 (by decide), h 4 (by decide), h 5 (by decide), h 6 (by decide), h 7 (by decide)]
  exact hv
theorem zBe_congr {S : zSt} {ac ac' : Nat → Int} {d r : Nat → Nat} (hv : zVal S d r) {j : Nat} (hj : j < zN S) (h : ∀ i, i < zN S → S 2 i = S 2 j → ac i = ac' i) : zBe S ac j = zBe S ac' j := by
  have t := hv.2.1 j hj
  unfold zBe
  split
  · rfl
  · next e =>
    have e2 : (((S 2 j).toNat : Nat) : Int) = S 2 j := by omega
    have h' : ∀ i, i < zN S → S 2 i = (((S 2 j).toNat : Nat) : Int) → ac i = ac' i := fun i hi q => h i hi (by omega)
    rw [zEn_congr h', zBg_congr (hv.2.2.2.1 (S 2 j).toNat (by omega)) h' hj e2.symm]
theorem zMi_step {σ τ σ1 : zSt} {b c k : Nat} {d r : Nat → Nat} (hbc : c + 6 ≤ b ∨ b + 10 ≤ c) (hv : zVal (zSv σ b) d r) (hk : k < (σ b 0).toNat) (h : zMi σ τ b c (k + 1) d) (f0 : ∀ a, a ≠ c + 3 → a ≠ c + 4 → a ≠ c + 5 → σ1 a = τ a)
    (f1 : ∀ j, j < (σ b 0).toNat → σ (b + 2) j = k → σ1 (c + 3) j = zBe (zSv σ b) (τ (c + 2)) j ∧ σ1 (c + 4) j = (zBs (zSv σ b) 12 j : Int) ∧ σ1 (c + 5) j = (if zOk (zSv σ b) j = true then 1 else 0))
    (f2 : ∀ j, ¬ (j < (σ b 0).toNat ∧ σ (b + 2) j = k) → σ1 (c + 3) j = τ (c + 3) j ∧ σ1 (c + 4) j = τ (c + 4) j ∧ σ1 (c + 5) j = τ (c + 5) j) : zMi σ (zMst σ σ1 b c k) b c k d := by
  obtain ⟨h1, h2, h3, h4, h5⟩ := h
  have r1 : σ1 (c + 1) = τ (c + 1) := f0 _ (by omega) (by omega) (by omega)
  have r2 : σ1 (c + 2) = τ (c + 2) := f0 _ (by omega) (by omega) (by omega)
  have e1 : zMst σ σ1 b c k (c + 1) = zu (τ (c + 1)) k (zSi (zSv σ b) (τ (c + 2)) k) := by
    unfold zMst; rw [zs_other (by omega), zs_row, r1, r2]
  have e2 : zMst σ σ1 b c k (c + 2) = zu (τ (c + 2)) k (zAc (zSv σ b) (zSi (zSv σ b) (τ (c + 2)) k) k) := by
    unfold zMst; rw [zs_row, zs_other (by omega), r2]
  have e3 : ∀ a, a ≠ c + 1 → a ≠ c + 2 → zMst σ σ1 b c k a = σ1 a := fun a a1 a2 => by
    unfold zMst; rw [zs_other a2, zs_other a1]
  have ag : ∀ j, k < j → zMst σ σ1 b c k (c + 2) j = τ (c + 2) j := fun j hj => by rw [e2, zu_ne (by omega)]
  have hk' : k < zN (zSv σ b) := hk
  have L1 : zLayFrom (zSv σ b) d (zMst σ σ1 b c k (c + 1)) (zMst σ σ1 b c k (c + 2)) (k + 1) := by
    refine ⟨fun j j1 j2 => ?_, ?_⟩
    · have := h2.1 j j1 j2
      rw [e1, zu_ne (by omega), ag j (by omega), zSi_congr (ac' := τ (c + 2)) hv j2 (fun i _ hi => ag i (by omega))]
      exact this
    · have : zTop (zSv σ b) (zMst σ σ1 b c k (c + 2)) d (k + 1) = zTop (zSv σ b) (τ (c + 2)) d (k + 1) := by
        refine zsum_congr (fun _ _ => rfl) (fun j _ hj => ?_)
        have := of_decide_eq_true hj
        unfold zF
        rw [ag j (by omega)]
      rw [this]
      exact h2.2
  have sk : zSi (zSv σ b) (zMst σ σ1 b c k (c + 2)) k = zSi (zSv σ b) (τ (c + 2)) k := zSi_congr hv hk' (fun i _ hi => ag i hi)
  refine ⟨fun a ha => by rw [e3 a (by omega) (by omega), f0 a (by omega) (by omega) (by omega)]; exact h1 a ha, zLayFrom_step hv hk' L1 (by rw [sk, e1, zu_eq]) (by rw [e1, e2, zu_eq, zu_eq]), fun j hj hjk => ?_, fun j hj => ?_, by rw [e3 c (by omega) (by omega), f0 c (by omega) (by omega) (by omega)]; exact h5⟩
  · rw [e3 (c + 3) (by omega) (by omega), e3 (c + 4) (by omega) (by omega), e3 (c + 5) (by omega) (by omega)]
    have tj : σ (b + 2) j < j := hv.tree hj
    rw [zBe_congr (ac' := τ (c + 2)) hv hj (fun i hi q => ag i (by
      have ti : σ (b + 2) i < i := hv.tree hi
      have q : σ (b + 2) i = σ (b + 2) j := q
      omega))]
    by_cases q : σ (b + 2) j = k
    · exact f1 j hj q
    · have := f2 j (fun z => q z.2)
      rw [this.1, this.2.1, this.2.2]
      exact h3 j hj (by omega)
  · rw [e3 (c + 5) (by omega) (by omega)]
    by_cases q : j < (σ b 0).toNat ∧ σ (b + 2) j = k
    · rw [(f1 j q.1 q.2).2.2]; split <;> simp
    · rw [(f2 j q).2.2]; exact h4 j hj
theorem zMi_stepE {σ τ σ1 : zSt} {b c k : Nat} {d r : Nat → Nat} (hbc : c + 6 ≤ b ∨ b + 10 ≤ c) (hv : zVal (zSv σ b) d r) (hk : k < (σ b 0).toNat) (h : zMi σ τ b c (k + 1) d) (hkd : σ (b + 1) k = 2) (hs : zLE τ σ1 b c k 12) : zMi σ (zMst σ σ1 b c k) b c k d := by
  have u1 := zMi_in h hbc
  have u0 : τ b 0 = σ b 0 := by rw [show τ b = σ b from u1 0 (by decide)]
  obtain ⟨s0, s1, s2⟩ := hs
  rw [u0, u1 2 (by decide), u1 3 (by decide)] at s1 s2
  refine zMi_step hbc hv hk h s0 (fun j hj hjk => ?_) (fun j hj => s2 j (fun z => hj ⟨z.1, z.2.1⟩))
  have pj : 0 ≤ σ (b + 3) j ∧ σ (b + 3) j < 12 ∧ _ := hv.2.2.2.2.1 j hj
  have vj := hv.2.2.1 j hj
  have v4 : zSv σ b 4 j = 0 := by
    by_cases z : zSv σ b 4 j = 0
    · exact z
    · have := (vj.2.2.2.2 z).2
      rw [show (zSv σ b 2 j).toNat = k by show (σ (b + 2) j).toNat = k; omega] at this
      have : σ (b + 1) k = 1 := this
      omega
  have a := s1 j ⟨hj, hjk, by omega⟩
  rw [a.1, a.2.1, a.2.2, zBs_own (by rw [v4]; rfl), zEn_eq (zSv_fun u1), u1 6 (by decide)]
  unfold zBe zOk
  have q1 : ¬ zSv σ b 2 j = -1 := by show ¬ σ (b + 2) j = -1; omega
  have q2 : (zSv σ b 2 j).toNat = k := by show (σ (b + 2) j).toNat = k; omega
  rw [if_neg q1, if_neg q1, q2, if_pos (show zSv σ b 1 k = 2 from hkd), if_pos (show zSv σ b 1 k = 2 from hkd)]
  exact ⟨rfl, rfl, rfl⟩
theorem zMi_stepQ {σ τ σ1 : zSt} {b c k : Nat} {d r : Nat → Nat} (hbc : c + 6 ≤ b ∨ b + 10 ≤ c) (hv : zVal (zSv σ b) d r) (hk : k < (σ b 0).toNat) (h : zMi σ τ b c (k + 1) d) (hkd : σ (b + 1) k ≠ 2) (hs : zLQ τ σ1 b c k (σ b 0).toNat) : zMi σ (zMst σ σ1 b c k) b c k d := by
  have u1 := zMi_in h hbc
  obtain ⟨s0, s1, s2⟩ := hs
  rw [u1 2 (by decide)] at s1 s2
  refine zMi_step hbc hv hk h s0 (fun j hj hjk => ?_) (fun j hj => s2 j (fun z => hj ⟨z.1, z.2.2⟩))
  have tj : σ (b + 2) j < j := hv.tree hj
  have a := s1 j ⟨hj, by omega, hjk⟩
  rw [a.1, a.2.1, a.2.2, zBg_eq (zSv_fun u1), zBs_eq (zSv_fun u1), zOp_eq (zSv_fun u1)]
  unfold zBe zOk
  have q1 : ¬ zSv σ b 2 j = -1 := by show ¬ σ (b + 2) j = -1; omega
  have q2 : (zSv σ b 2 j).toNat = k := by show (σ (b + 2) j).toNat = k; omega
  rw [if_neg q1, if_neg q1, q2, if_neg (show ¬ zSv σ b 1 k = 2 from hkd), if_neg (show ¬ zSv σ b 1 k = 2 from hkd)]
  exact ⟨rfl, rfl, rfl⟩
theorem zLayFrom_eq {S T : zSt} {d : Nat → Nat} {si ac : Nat → Int} {i : Nat} (h : ∀ r, r < 10 → T r = S r) (hl : zLayFrom S d si ac i) : zLayFrom T d si ac i := by
  have a : ∀ k, zSi T ac k = zSi S ac k := fun k => by
    unfold zSi zN; rw [zEn_eq h, zMx_eq h, h 0 (by decide), h 1 (by decide), h 7 (by decide)]
  have b : ∀ x k, zAc T x k = zAc S x k := fun x k => by unfold zAc zAcW; rw [h 7 (by decide)]
  have c : zTop T ac d i = zTop S ac d i := by unfold zTop zF zN; rw [h 0 (by decide), h 2 (by decide), h 6 (by decide)]
  unfold zLayFrom zN at *
  simp only [a, b, c, h 0 (by decide)]
  exact hl
theorem zMeas_0 {σ τ : zSt} {b c : Nat} {d r : Nat → Nat} (ht : zMi σ τ b c 0 d) (hv : zVal (zSv σ b) d r) (h0 : σ b 0 = 0) : zMeas σ τ b c := by
  obtain ⟨h1, h2, h3, h4, h5⟩ := ht
  have hn : zN (zSv σ b) = 0 := by show (σ b 0).toNat = 0; omega
  exact ⟨h1, fun k hk => by omega, fun k hk => by omega, h4, by rw [h5, zu_eq, if_pos h0], fun j hj => by rw [h5, zu_ne hj]⟩
theorem zMeas_1 {σ τ : zSt} {b c : Nat} {d r : Nat → Nat} (hbc : c + 6 ≤ b ∨ b + 10 ≤ c) (ht : zMi σ τ b c 0 d) (hv : zVal (zSv σ b) d r) (h0 : 0 < σ b 0) {v w : Int} (hv6 : v = σ (b + 6) 0) (hw : w = σ (b + 6) 0 + τ (c + 2) 0) : zMeas σ (zs (zs (zs (zs τ (c + 4) 0 0) (c + 5) 0 0) (c + 3) 0 v) c 5 w) b c := by
  obtain ⟨h1, h2, h3, h4, h5⟩ := ht
  have hn : 0 < zN (zSv σ b) := by show 0 < (σ b 0).toNat; omega
  have e1 : zs (zs (zs (zs τ (c + 4) 0 0) (c + 5) 0 0) (c + 3) 0 v) c 5 w (c + 1) = τ (c + 1) := by rw [zs_other (by omega), zs_other (by omega), zs_other (by omega), zs_other (by omega)]
  have e2 : zs (zs (zs (zs τ (c + 4) 0 0) (c + 5) 0 0) (c + 3) 0 v) c 5 w (c + 2) = τ (c + 2) := by rw [zs_other (by omega), zs_other (by omega), zs_other (by omega), zs_other (by omega)]
  have r0 : zSv σ b 2 0 = -1 := (hv.2.1 0 hn).2.2.mp rfl
  have s0 : zSv σ b 4 0 = 0 := by
    by_cases z : zSv σ b 4 0 = 0
    · exact z
    · have := ((hv.2.2.1 0 hn).2.2.2.2 z).1; omega
  unfold zMeas
  rw [e1, e2]
  refine ⟨fun a ha => by rw [zs_other (by omega), zs_other (by omega), zs_other (by omega), zs_other (by omega)]; exact h1 a ha, fun k hk => ⟨(h2.1 k (by omega) hk).1, (h2.1 k (by omega) hk).2.1⟩, fun k hk => ?_, fun k hk => ?_, ?_, fun j hj => ?_⟩
  · by_cases e : k = 0
    · subst e
      rw [zBs_own (by rw [s0]; rfl)]
      unfold zBe zOk
      rw [if_pos r0, if_pos r0, show zSv σ b 6 0 = σ (b + 6) 0 from rfl, ← hv6]
      simp [zs_app, zu_app]
    · have t := hv.2.1 k hk
      have := h3 k hk (by have z : ¬ zSv σ b 2 k = -1 := fun q => e (t.2.2.mpr q); have : zSv σ b 2 k = σ (b + 2) k := rfl; omega)
      simpa [zs_app, zu_app, e] using this
  · by_cases e : k = 0
    · subst e; simp [zs_app, zu_app]
    · have := h4 k hk
      simpa [zs_app, zu_app, e] using this
  · rw [zs_eq, if_neg (by omega), hw]
  · rw [zs_row, zu_ne hj, zs_other (by omega), zs_other (by omega), zs_other (by omega), h5, zu_ne hj]
theorem w_La_measure {G : zG} {X : zX} {n : Nat} {σ : zSt} {b c : Nat} (hn : 189 ≤ n) (hL : zLa SH c) (hS : zSw SH b) (hg : zGood σ b) (hbc : c + 6 ≤ b ∨ b + 10 ≤ c) {d r : Nat → Nat} (hv : zVal (zSv σ b) d r) : ∀ (m : Nat) (i : Nat) (x2 : Int) (τ : zSt), x2 = (i : Int) - 1 → zMi σ τ b c i d → i ≤ (σ b 0).toNat → i < m → Go G X m_La_measure (3, 0, 0, 0, 0) n SH τ 12 [(0, vr G c), (1, vr G b), (2, vi x2)] [] (zV n SH (fun σ' => zMeas σ σ' b c)) := by
  intro m
  induction m with
  | zero => intro i x2 τ e2 ht hi hm; exact absurd hm (by omega)
  | succ m ih =>
    intro i x2 τ e2 ht hi hm
    have hb := hS.1
    have hcc := hL.1
    have hc := hg.1
    have u1 := zMi_in ht hbc
    have u0 : τ b 0 = σ b 0 := by rw [show τ b = σ b from u1 0 (by decide)]
    have tg := zGood_eq u1 hg
    refine g_iload_n (i := 2) (by decide +kernel) rfl ?_
    refine g_if_lt (off := 86) (tgt := 99) (by decide +kernel) (by decide) ⟨by omega, by omega⟩ (fun h13 => ?_) (fun h13 => ?_)
    · have e0 : i = 0 := by omega
      subst e0
      refine g_aload_n (i := 1) (by decide +kernel) rfl ?_
      refine g_geti f_La_32 (by decide +kernel) (by omega) hS.a0 rfl ?_
      refine g_if_le (off := 46) (tgt := 149) (by decide +kernel) (by decide) ⟨by omega, by omega⟩ (fun h103 => ?_) (fun h103 => ?_)
      · refine g_retV (by decide +kernel) rfl ⟨by decide, by decide⟩ ?_
        first
          | (have hz : τ b 0 ≤ 0 := h103
             exact zMeas_0 ht hv (by omega))
          | exact zMeas_1 hbc ht hv (by omega) (by simp [zs_app, t6]; rw [if_neg (by omega), if_neg (by omega)]; exact t6) (by simp [zs_app, zu_app]; rw [if_neg (by omega), if_neg (by omega)]; exact t6)
      · have t6 : τ (b + 6) 0 = σ (b + 6) 0 := by rw [u1 6 (by decide)]
        refine g_aload_n (i := 0) (by decide +kernel) rfl ?_
        refine g_getr f_La_21 (by decide +kernel) (by omega) hL.a0 rfl ?_
        refine g_iconst (a := 0) (by decide +kernel) ?_
        refine g_iconst (a := 0) (by decide +kernel) ?_
        refine g_iast (j := 0) (by decide +kernel) (by omega) hL.a4 rfl (by omega) (by decide) ?_
        refine g_aload_n (i := 0) (by decide +kernel) rfl ?_
        refine g_getr f_La_24 (by decide +kernel) (by omega) hL.a0 rfl ?_
        refine g_iconst (a := 0) (by decide +kernel) ?_
        refine g_iconst (a := 0) (by decide +kernel) ?_
        refine g_zast (j := 0) (by decide +kernel) (by omega) hL.a5 rfl (by omega) (by decide) (by omega) ?_
        refine g_aload_n (i := 0) (by decide +kernel) rfl ?_
        refine g_getr f_La_18 (by decide +kernel) (by omega) hL.a0 rfl ?_
        refine g_iconst (a := 0) (by decide +kernel) ?_
        refine g_aload_n (i := 1) (by decide +kernel) rfl ?_
        refine g_getr f_La_54 (by decide +kernel) (by omega) hS.a0 rfl ?_
        refine g_iconst (a := 0) (by decide +kernel) ?_
        refine g_iald (j := 0) (by decide +kernel) (by omega) hS.a6 rfl (by omega) (by decide) ?_
        refine g_iast (j := 0) (by decide +kernel) (by omega) hL.a3 rfl (by omega) (by decide) ?_
        refine g_aload_n (i := 0) (by decide +kernel) rfl ?_
        refine g_aload_n (i := 0) (by decide +kernel) rfl ?_
        refine g_getr f_La_18 (by decide +kernel) (by omega) hL.a0 rfl ?_
        refine g_iconst (a := 0) (by decide +kernel) ?_
        refine g_iald (j := 0) (by decide +kernel) (by omega) hL.a3 rfl (by omega) (by decide) ?_
        refine g_aload_n (i := 0) (by decide +kernel) rfl ?_
        refine g_getr f_La_15 (by decide +kernel) (by omega) hL.a0 rfl ?_
        refine g_iconst (a := 0) (by decide +kernel) ?_
        refine g_iald (j := 0) (by decide +kernel) (by omega) hL.a2 rfl (by omega) (by decide) ?_
        refine g_iadd (by decide +kernel) ?_
        refine g_puti f_La_28 (by decide +kernel) (by omega) hL.a0 rfl ?_
        refine g_retV (by decide +kernel) rfl ⟨by decide, by decide⟩ ?_
        first
          | (have hz : τ b 0 ≤ 0 := h103
             exact zMeas_0 ht hv (by omega))
          | exact zMeas_1 hbc ht hv (by omega) (by simp [zs_app, t6]; rw [if_neg (by omega), if_neg (by omega)]; exact t6) (by simp [zs_app, zu_app]; rw [if_neg (by omega), if_neg (by omega)]; exact t6)
    · obtain ⟨k, rfl⟩ : ∃ k, i = k + 1 := ⟨i - 1, by omega⟩
      have ex : x2 = (k : Int) := by omega
      subst ex
      have hk : k < (σ b 0).toNat := by omega
      have kd := hg.2.1 k (by omega)
      have k1 : τ (b + 1) k = σ (b + 1) k := by rw [u1 1 (by decide)]
      have hvT := zVal_eq (zSv_fun u1) hv
      have hkT : k < zN (zSv τ b) := by show k < (τ b 0).toNat; omega
      have bd := zSi_le hv hk ht.2.1
      have lfT : zLayFrom (zSv τ b) d (τ (c + 1)) (τ (c + 2)) (k + 1) := zLayFrom_eq (zSv_fun u1) ht.2.1
      refine g_aload_n (i := 1) (by decide +kernel) rfl ?_
      refine g_getr f_La_37 (by decide +kernel) (by omega) hS.a0 rfl ?_
      refine g_iload_n (i := 2) (by decide +kernel) rfl ?_
      refine g_iald (j := k) (by decide +kernel) (by omega) hS.a1 rfl (by omega) (by decide) ?_
      refine g_iconst (a := 2) (by decide +kernel) ?_
      refine g_icmp_ne (off := 12) (tgt := 35) (by decide +kernel) (by decide) ⟨by omega, by omega⟩ ⟨by omega, by omega⟩ (fun h23 => ?_) (fun h23 => ?_)
      · refine g_aload_n (i := 0) (by decide +kernel) rfl ?_
        refine g_aload_n (i := 1) (by decide +kernel) rfl ?_
        refine g_iload_n (i := 2) (by decide +kernel) rfl ?_
        refine g_cVI (st := []) (c_La_layAtOnce (q := k) hn hL hS tg hbc (by omega) (fun j hj hq hb => by
          have := hvT.2.2.2.1 k hkT j hj hq hb
          exact ⟨this.1, this.2.1, this.2.2.1⟩) (fun j hj hq _ => by
          have z := zBg_le (ac := τ (c + 2)) (hvT.2.2.2.1 k hkT) (fun i hi => (hvT.2.2.1 i hi).1.2.2.2.2.1) (fun i hi e => (lfT.1 i (by have := hvT.tree hi; omega) hi).2.2.2) hj hq
          have z2 := zCS_le hvT hkT lfT
          have z3 := (lfT.1 j (by have := hvT.tree hj; have hq : zSv τ b 2 j = (k : Int) := hq; omega) hj).2.2.2
          omega)) k_La_layAtOnce l_La_44 (by decide +kernel) (by omega) hL.a0 rfl rfl rfl (Nat.le_of_ble_eq_true rfl) (by decide) ⟨by decide, by decide⟩ ?_
        rintro a σ1 ⟨ea, hs⟩
        obtain ⟨w1, w2, w3⟩ := zLQ_in hs hbc
        rw [u0] at ea hs
        have ea : a = zIns (zSv σ b) (σ1 (c + 2)) k := by
          unfold zIns
          rw [ea, if_neg (show ¬ zSv σ b 1 k = 2 by show ¬ σ (b + 1) k = 2; omega), w2, zMx_eq (zSv_fun u1)]
          rfl
        subst ea
        exact t_La_measure hn hL hS hg hbc hv hk (fun r hr => by rw [w1 r hr]; exact u1 r hr) (by rw [w2]; exact ⟨bd.1, bd.2.1⟩) (ih k _ _ rfl (zMi_stepQ hbc hv hk ht (by omega) hs) (by omega) (by omega))
      · refine g_aload_n (i := 0) (by decide +kernel) rfl ?_
        refine g_aload_n (i := 1) (by decide +kernel) rfl ?_
        refine g_iload_n (i := 2) (by decide +kernel) rfl ?_
        refine g_cVI (st := []) (c_La_layOneBehindTheOther (q := k) hn hL hS tg hbc (by omega) (fun j hj hq => by
          have := hvT.2.2.2.2.1 j hj
          rw [show zSv τ b 2 j = (k : Int) from hq] at this
          exact this) (fun p p' => hvT.2.2.2.2.2 k p p')) k_La_layOneBehindTheOther l_La_40 (by decide +kernel) (by omega) hL.a0 rfl rfl rfl (Nat.le_of_ble_eq_true rfl) (by decide) ⟨by decide, by decide⟩ ?_
        rintro a σ1 ⟨ea, hs⟩
        obtain ⟨w1, w2, w3⟩ := zLE_in hs hbc
        have ea : a = zIns (zSv σ b) (σ1 (c + 2)) k := by
          unfold zIns
          rw [ea, if_pos (show zSv σ b 1 k = 2 by show σ (b + 1) k = 2; omega), w2, zEn_eq (zSv_fun u1)]
        subst ea
        refine g_goto (off := 9) (tgt := 41) (by decide +kernel) (by decide) ?_
        exact t_La_measure hn hL hS hg hbc hv hk (fun r hr => by rw [w1 r hr]; exact u1 r hr) (by rw [w2]; exact ⟨bd.1, bd.2.1⟩) (ih k _ _ rfl (zMi_stepE hbc hv hk ht (by omega) hs) (by omega) (by omega))
theorem c_La_measure {G : zG} {n : Nat} {σ : zSt} {b c : Nat} (hn : 189 ≤ n) (hL : zLa SH c) (hS : zSw SH b) (hg : zGood σ b) (hbc : c + 6 ≤ b ∨ b + 10 ≤ c) {d r : Nat → Nat} (hv : zVal (zSv σ b) d r) (hop : ∀ k, k < 12 → σ (c + 5) k = 0 ∨ σ (c + 5) k = 1) : Gm G y_La_measure m_La_measure 3 0 0 [vr G c, vr G b] n SH σ (zV n SH (fun σ' => zMeas σ σ' b c)) := by
  refine g_enter (L := [(0, _), (1, _)]) (by decide) rfl rfl rfl (Nat.le_of_ble_eq_true rfl) (fun X => ?_)
  have hb := hS.1
  have hcc := hL.1
  have hc := hg.1
  refine g_aload_n (i := 0) (by decide +kernel) rfl ?_
  refine g_iconst (a := 0) (by decide +kernel) ?_
  refine g_puti f_La_28 (by decide +kernel) (by omega) hL.a0 rfl ?_
  refine g_aload_n (i := 1) (by decide +kernel) rfl ?_
  refine g_geti f_La_32 (by decide +kernel) (by omega) hS.a0 rfl ?_
  refine g_iconst (a := 1) (by decide +kernel) ?_
  refine g_isub (by decide +kernel) ?_
  refine g_istore_n (i := 2) (L' := [(0, _), (1, _), (2, _)]) (by decide +kernel) rfl rfl ?_
  rw [zs_other (show b ≠ c by omega)]
  refine w_La_measure hn hL hS hg hbc hv ((σ b 0).toNat + 1) (σ b 0).toNat _ _ (by omega) ⟨fun a ha => zs_other (by omega), ?_, fun k hk hk2 => ?_, fun k hk => ?_, zs_row _ _ _ _⟩ (by omega) (by omega)
  · refine ⟨fun k h1 h2 => ?_, ?_⟩
    · have : k < (σ b 0).toNat := h2
      omega
    · have z : ∀ n, n ≤ (σ b 0).toNat → zsum (fun j => decide ((σ b 0).toNat ≤ j ∧ zSv σ b 2 j < ((σ b 0).toNat : Nat))) (fun j => zF (zSv σ b) (zs σ c 5 0 (c + 2)) j * 9 ^ d j) n = 0 := by
        intro n
        induction n with
        | zero => intro _; rfl
        | succ n ih => intro h; rw [zsum_s, ih (by omega), decide_eq_false (by omega)]; rfl
      have e : zTop (zSv σ b) (zs σ c 5 0 (c + 2)) d (σ b 0).toNat = 0 := z _ (Nat.le_refl _)
      rw [e]
      have : zN (zSv σ b) = (σ b 0).toNat := rfl
      omega
  · have : σ (b + 2) k < k := hv.tree hk
    omega
  · rw [zs_other (by omega)]; exact hop k hk
