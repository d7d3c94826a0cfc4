theorem zsett_in' {l : Int} {tm : Nat → Int} (hl : 0 ≤ l) : ∀ i, (∀ q, q < i → 0 ≤ tm q ∧ tm q ≤ 1999) → l ≤ zsett l tm i ∧ zsett l tm i ≤ max l 1999
  | 0, _ => ⟨Int.le_refl l, by show l ≤ _; omega⟩
  | i + 1, h => by
    have a := zsett_in' hl i (fun q hq => h q (by omega))
    have b := h i (by omega)
    rw [zsett_s]; omega
theorem zOrd.tm {σ : zSt} (h : zOrd σ) (hg : zGood σ 1) : ∀ i, i < (σ 1 8).toNat → 0 ≤ σ 10 (σ 43 i).toNat ∧ σ 10 (σ 43 i).toNat ≤ 1999 := fun i hi => by
  have a := h.in hg i hi
  exact (hg.2.2.2 _ (by omega)).2
theorem w_Sg_prepare {G : zG} {X : zX} {n : Nat} {σ : zSt} {Q : zSt → Prop} (hn : 189 ≤ n) (hg : zGood σ 1) (hK : ∀ k, k < (σ 1 0).toNat → zKk σ k) (hs : zStood σ) (ho : zOrd σ) (hl : 0 ≤ σ 21 5 ∧ σ 21 5 ≤ 2000000000) (kk : ∀ τ, zPi σ τ (σ 1 8).toNat → Q τ) : ∀ (m : Nat) (i : Nat) (x1 : Int) (τ : zSt), x1 = (i : Int) → zPi σ τ i → i ≤ (σ 1 8).toNat → (σ 1 8).toNat < i + m → Go G X m_Sg_prepare (4, 0, 0, 0, 0) n SH τ 40 [(0, vr G 33), (1, vi x1)] [] (zV n SH (fun σ' => Q σ')) := by
  intro m
  induction m with
  | zero => intro i x1 τ e1 ht hi hm; exact absurd hm (by omega)
  | succ m ih =>
    intro i x1 τ e1 ht hi hm
    have hc : 0 ≤ σ 1 8 ∧ σ 1 8 ≤ 6 := hg.1.2.2
    have s1 : τ 1 = σ 1 := ht.1 1 (by decide) (by decide)
    have s0 : τ 1 8 = σ 1 8 := by rw [s1]
    have s10 : τ 10 = σ 10 := ht.1 10 (by decide) (by decide)
    have s43 : τ 43 = σ 43 := ht.1 43 (by decide) (by decide)
    subst e1
    refine g_iload_n (i := 1) (by decide +kernel) rfl ?_
    refine g_aload_n (i := 0) (by decide +kernel) rfl ?_
    refine g_getr f_Sg_29 (by decide +kernel) (by omega) rfl rfl ?_
    refine g_geti f_Sg_59 (by decide +kernel) (by omega) rfl rfl ?_
    refine g_icmp_ge (off := 55) (tgt := 103) (by decide +kernel) (by decide) ⟨by omega, by omega⟩ ⟨by omega, by omega⟩ (fun h48 => ?_) (fun h48 => ?_)
    · refine g_retV (by decide +kernel) rfl ⟨by decide, by decide⟩ ?_
      rw [show i = (σ 1 8).toNat by omega] at ht
      exact kk _ ht
    · have hip : i < (σ 1 8).toNat := by omega
      have oi := ho.in hg i hip
      obtain ⟨j, ej⟩ := Int.eq_ofNat_of_zero_le oi.1
      have hj6 : j < 6 := by omega
      have ej2 : (σ 43 i).toNat = j := by omega
      have ej3 : τ 43 i = j := by rw [s43]; exact ej
      have pf : zPreF τ (45 + 8 * j) (τ 10 j) := by rw [s10, ← ej2]; exact zPi_pre hg hK hs ho ht hip
      have zt := zsett_in' hl.1 i (fun q hq => ho.tm hg q (by omega))
      have z7 := ht.2.2.1
      have tj : 0 ≤ σ 10 j ∧ σ 10 j ≤ 1999 := by have := ho.tm hg i hip; rw [ej2] at this; exact this
      refine g_aload_n (i := 0) (by decide +kernel) rfl ?_
      refine g_getr f_Sg_22 (by decide +kernel) (by omega) rfl rfl ?_
      refine g_iload_n (i := 1) (by decide +kernel) rfl ?_
      refine g_iald (j := i) (by decide +kernel) (by omega) rfl rfl (by omega) (by decide) ?_
      refine g_istore_n (i := 2) (L' := [(0, _), (1, _), (2, _)]) (by decide +kernel) rfl rfl ?_
      refine g_aload_n (i := 0) (by decide +kernel) rfl ?_
      refine g_aload_n (i := 0) (by decide +kernel) rfl ?_
      refine g_getr f_Sg_18 (by decide +kernel) (by omega) rfl rfl ?_
      refine g_iload_n (i := 2) (by decide +kernel) rfl ?_
      refine g_aald (CN := "") (j := j) (by decide +kernel) (by omega) rfl (Or.inr rfl) ej3 (by omega) (by decide) rfl ?_
      refine g_aload_n (i := 0) (by decide +kernel) rfl ?_
      refine g_getr f_Sg_29 (by decide +kernel) (by omega) rfl rfl ?_
      refine g_getr f_Sg_64 (by decide +kernel) (by omega) rfl rfl ?_
      refine g_iload_n (i := 2) (by decide +kernel) rfl ?_
      refine g_iald (j := j) (by decide +kernel) (by omega) rfl ej3 (by omega) (by decide) ?_
      refine g_cVV (st := []) (c_Sg_fill hn (mo_at j hj6) pf) k_Sg_fill l_Sg_67 (by decide +kernel) (by omega) rfl rfl rfl rfl (Nat.le_of_ble_eq_true rfl) (by decide) ⟨by decide, by decide⟩ ?_
      rintro τ1 hf
      have f33 : τ1 33 = τ 33 := hf.1 33 (by omega)
      have f10 : τ1 10 = σ 10 := by rw [hf.1 10 (by omega)]; exact s10
      have b7 : τ1 33 7 = zsett (σ 21 5) (fun i => σ 10 (σ 43 i).toNat) i := by rw [f33]; exact z7
      refine g_aload_n (i := 0) (by decide +kernel) rfl ?_
      refine g_aload_n (i := 0) (by decide +kernel) rfl ?_
      refine g_geti f_Sg_56 (by decide +kernel) (by omega) rfl rfl ?_
      refine g_aload_n (i := 0) (by decide +kernel) rfl ?_
      refine g_getr f_Sg_29 (by decide +kernel) (by omega) rfl rfl ?_
      refine g_getr f_Sg_64 (by decide +kernel) (by omega) rfl rfl ?_
      refine g_iload_n (i := 2) (by decide +kernel) rfl ?_
      refine g_iald (j := j) (by decide +kernel) (by omega) rfl ej3 (by omega) (by decide) ?_
      refine g_max ma_max_Sg_71 (by decide +kernel) ⟨by rw [b7]; omega, by rw [b7]; omega⟩ ⟨by rw [f10]; omega, by rw [f10]; omega⟩ (Nat.le_of_ble_eq_true rfl) (by decide) ⟨by decide, by decide⟩ ?_
      refine g_puti f_Sg_56 (by decide +kernel) (by omega) rfl rfl ?_
      refine g_iinc (i := 1) (b := 1) (L' := [(0, _), (1, _), (2, _)]) (by decide +kernel) rfl rfl rfl ?_
      refine g_goto (off := -60) (tgt := 40) (by decide +kernel) (by decide) ?_
      refine g_less [0, 1] rfl (g_eq (ih (i + 1) _ _ (by push_cast; rfl) (zPi_step hg ho ht hip (τ1 := τ1) (by rw [ej2, ← s10]; exact hf)) (by omega) (by omega)) ?_ rfl rfl)
      rw [b7, f10, zsett_s, ej2]
/-- what prepare leaves -/
def zPrep (σ σ' : zSt) : Prop := (∀ a, (a < 21 ∨ (27 ≤ a ∧ a < 33) ∨ 93 ≤ a) → σ' a = σ a) ∧ zStage σ'
theorem zGood_pr {σ σ' : zSt} (h : ∀ a, a < 21 → σ' a = σ a) (hg : zGood σ 1) : zGood σ' 1 := zGood_eq (fun r hr => h _ (by omega)) hg
theorem zSv_pr {σ σ' : zSt} {b : Nat} (h : ∀ r, r < 10 → σ' (b + r) = σ (b + r)) (r : Nat) (hr : r < 10) : zSv σ' b r = zSv σ b r := h r hr
theorem zPrep_run {G : zG} {X : zX} {n : Nat} {σ σ1 σb : zSt} (hn : 189 ≤ n) (hg : zGood σ 1) {d r : Nat → Nat} (hv : zVal (zSv σ 1) d r) (hM : zMr σ 34 ∧ ∀ j, j < 6 → zMr σ (45 + 8 * j)) (hm : zMeas σ σ1 1 21) (L : ∀ a, a ≠ 33 → a ≠ 34 → a ≠ 43 → a ≠ 44 → σb a = σ1 a) (h6 : σb 33 6 = (zcnt (fun j => decide (σ1 2 j = 0)) (σ1 1 0).toNat : Int)) (h44 : zStand (zSv (zs σ1 34 0 (-1)) 1) (σb 44) (zcnt (fun j => decide (σ1 2 j = 0)) (σ1 1 0).toNat)) (ho : zOrd σb) (h7 : σb 33 7 = σb 21 5) (h34 : σb 34 = zs σ1 34 0 (-1) 34) : Go G X m_Sg_prepare (4, 0, 0, 0, 0) n SH σb 40 [(0, vr G 33), (1, vi 0)] [] (zV n SH (fun σ' => zPrep σ σ')) := by
  have K1 := zMeas_kk hv hg hm
  obtain ⟨m1, m2, m3, m4, m5, m6⟩ := id hm
  have low : ∀ a, a < 21 → σb a = σ a := fun a ha => by rw [L a (by omega) (by omega) (by omega) (by omega), m1 a (by omega)]
  have lay : ∀ a, 21 ≤ a → a < 27 → σb a = σ1 a := fun a h1 h2 => L a (by omega) (by omega) (by omega) (by omega)
  have gb : zGood σb 1 := zGood_pr low hg
  have e1 : σb 1 = σ 1 := low 1 (by decide)
  have lo3 : ∀ a, a < 33 → σb a = σ1 a := fun a ha => L a (by omega) (by omega) (by omega) (by omega)
  have kb : ∀ k, k < (σb 1 0).toNat → zKk σb k := fun k hk => by
    rw [e1] at hk
    have := K1 k hk
    unfold zKk at *
    rw [lo3 3 (by decide), lo3 26 (by decide), lo3 25 (by decide), lo3 24 (by decide), lo3 23 (by decide), lo3 22 (by decide), lo3 8 (by decide)]
    exact this
  have sb : zStood σb := by
    unfold zStood
    rw [lo3 2 (by decide), lo3 1 (by decide)]
    exact ⟨h6, (zEqv.of (fun r hr => by
      show σb (1 + r) = zs σ1 34 0 (-1) (1 + r)
      rw [zs_other (by omega), lo3 _ (by omega)])).stand h44⟩
  have Lb : σb 21 5 = (if σb 1 0 = 0 then 0 else σb 7 0 + σb 23 0) := by
    rw [lay 21 (by decide) (by decide), lay 23 (by decide) (by decide), low 1 (by decide), low 7 (by decide)]
    exact m5
  have hl : 0 ≤ σb 21 5 ∧ σb 21 5 ≤ 2000000000 := by
    rw [Lb]
    split
    · omega
    · next z =>
      have c := gb.1
      have k0 := (kb 0 (by omega)).2.2.2.1
      have u0 : 0 ≤ σb 7 0 ∧ σb 7 0 ≤ 999 := (gb.2.1 0 (by decide)).2.2.2.2.2
      omega
  have mr : ∀ p, 45 ≤ p → p + 8 ≤ 93 → zMr σ p → zMr σb p := fun p h1 h2 hp => by
    have q : ∀ r, r < 8 → σb (p + r) = σ (p + r) := fun r hr => by rw [L _ (by omega) (by omega) (by omega) (by omega), m1 _ (by omega)]
    unfold zMr at *
    rw [q 1 (by decide), q 2 (by decide), q 3 (by decide), q 4 (by decide), q 5 (by decide), q 6 (by decide), q 7 (by decide), show σb p = σ p from q 0 (by decide)]
    exact hp
  have m34 : zMr σb 34 := by
    have hp := hM.1
    have q : ∀ r, 1 ≤ r → r < 8 → σb (34 + r) = σ (34 + r) := fun r h1 hr => by rw [L _ (by omega) (by omega) (by omega) (by omega), m1 _ (by omega)]
    unfold zMr at *
    rw [q 1 (by decide) (by decide), q 2 (by decide) (by decide), q 3 (by decide) (by decide), q 4 (by decide) (by decide), q 5 (by decide) (by decide), q 6 (by decide) (by decide), q 7 (by decide) (by decide), h34, zs_eq]
    exact ⟨⟨by decide, by decide⟩, hp.2⟩
  refine w_Sg_prepare hn gb kb sb ho hl (fun τ ht => ?_) 7 0 _ σb rfl ⟨fun _ _ _ => rfl, fun _ _ => rfl, h7, fun j hj => mr _ (by omega) (by omega) (hM.2 j hj), fun q hq => by omega⟩ (by omega) (by have := gb.1; omega)
  obtain ⟨t1, t2, t3, t4, t5⟩ := ht
  have tl : ∀ a, a < 33 → τ a = σb a := fun a ha => t1 a (by omega) (by omega)
  have E0 : zEqv (zSv σ 1) (zSv τ 1) := zEqv.of (fun r hr => by show τ (1 + r) = σ (1 + r); rw [tl _ (by omega), low _ (by omega)])
  have E1 : zEqv (zSv σb 1) (zSv τ 1) := zEqv.of (fun r hr => tl (1 + r) (by omega))
  refine ⟨fun a ha => ?_, ⟨?_, ?_, ?_, ?_⟩, fun k hk => ?_, ?_, ?_, ?_, ⟨?_, t4⟩, ?_, Or.inl ?_⟩
  · rw [t1 a (by omega) (by omega), L a (by omega) (by omega) (by omega) (by omega), m1 a (by omega)]
  · rw [tl 22 (by decide), tl 23 (by decide), lay 22 (by decide) (by decide), lay 23 (by decide) (by decide)]
    exact E0.lay hv m2
  · intro k hk
    rw [tl 1 (by decide), e1] at hk
    rw [tl 23 (by decide), tl 24 (by decide), tl 25 (by decide), tl 26 (by decide), lay 23 (by decide) (by decide), lay 24 (by decide) (by decide), lay 25 (by decide) (by decide), lay 26 (by decide) (by decide), E0.be hv hk, E0.bs hv 12 k hk, E0.ok hv hk]
    exact m3 k hk
  · rw [tl 26 (by decide), lay 26 (by decide) (by decide)]; exact m4
  · rw [tl 21 (by decide), tl 1 (by decide), tl 7 (by decide), tl 23 (by decide)]; exact Lb
  · rw [tl 1 (by decide)] at hk
    have := kb k hk
    unfold zKk at *
    rw [tl 3 (by decide), tl 26 (by decide), tl 25 (by decide), tl 24 (by decide), tl 23 (by decide), tl 22 (by decide), tl 8 (by decide)]
    exact this
  · unfold zStood at *
    rw [t2 6 (by decide), tl 2 (by decide), tl 1 (by decide), t1 44 (by decide) (by decide)]
    exact ⟨sb.1, E1.stand sb.2⟩
  · unfold zOrd
    rw [tl 1 (by decide), tl 10 (by decide), t1 43 (by decide) (by decide)]; exact ho
  · rw [tl 1 (by decide), tl 10 (by decide), t1 43 (by decide) (by decide)]; exact t5
  · have q : ∀ r, r < 8 → τ (34 + r) = σb (34 + r) := fun r hr => t1 _ (by omega) (by omega)
    unfold zMr at *
    rw [q 1 (by decide), q 2 (by decide), q 3 (by decide), q 4 (by decide), q 5 (by decide), q 6 (by decide), q 7 (by decide), show τ 34 = σb 34 from q 0 (by decide)]
    exact m34
  · rw [tl 1 (by decide), tl 10 (by decide), tl 21 (by decide), t1 43 (by decide) (by decide)]; exact t3
  · rw [t1 34 (by decide) (by decide), h34, zs_eq]
theorem c_Sg_prepare {G : zG} {n : Nat} {σ : zSt} (hn : 189 ≤ n) (hg : zGood σ 1) {d r : Nat → Nat} (hv : zVal (zSv σ 1) d r) (hly : ∀ k, k < (σ 1 0).toNat → 0 ≤ σ 8 (9 * k + 6) ∧ σ 8 (9 * k + 6) ≤ 9) (hop : ∀ k, k < 12 → σ 26 k = 0 ∨ σ 26 k = 1) (hM : zMr σ 34 ∧ ∀ j, j < 6 → zMr σ (45 + 8 * j)) : Gm G y_Sg_prepare m_Sg_prepare 4 0 0 [vr G 33] n SH σ (zV n SH (fun σ' => zPrep σ σ')) := by
  refine g_enter (L := [(0, _)]) (by decide) rfl rfl rfl (Nat.le_of_ble_eq_true rfl) (fun X => ?_)
  have hc : 0 ≤ σ 1 8 ∧ σ 1 8 ≤ 6 := hg.1.2.2
  refine g_aload_n (i := 0) (by decide +kernel) rfl ?_
  refine g_getr f_Sg_33 (by decide +kernel) (by omega) rfl rfl ?_
  refine g_aload_n (i := 0) (by decide +kernel) rfl ?_
  refine g_getr f_Sg_29 (by decide +kernel) (by omega) rfl rfl ?_
  refine g_cVV (st := []) (c_La_measure (b := 1) (c := 21) hn la_21 sh_1 hg (Or.inr (by decide)) hv hop) k_La_measure l_Sg_37 (by decide +kernel) (by omega) rfl rfl rfl rfl (Nat.le_of_ble_eq_true rfl) (by decide) ⟨by decide, by decide⟩ ?_
  rintro σ1 hm
  have K1 := zMeas_kk hv hg hm
  obtain ⟨m1, m2, m3, m4, m5, m6⟩ := id hm
  have g1 : zGood σ1 1 := zGood_pr (fun a ha => m1 a (by omega)) hg
  refine g_aload_n (i := 0) (by decide +kernel) rfl ?_
  refine g_getr f_Sg_12 (by decide +kernel) (by omega) rfl rfl ?_
  refine g_iconst (a := -1) (by decide +kernel) ?_
  refine g_puti f_Sg_43 (by decide +kernel) (by omega) rfl rfl ?_
  refine g_aload_n (i := 0) (by decide +kernel) rfl ?_
  have g2 : zGood (zs σ1 34 0 (-1)) 1 := zGood_pr (fun a ha => zs_other (by omega)) g1
  refine g_cVV (st := []) (c_Sg_standLeaves hn g2 (fun k hk => by rw [zs_other (by decide)] at hk; rw [zs_other (by decide), m1 8 (by omega)]; rw [m1 1 (by omega)] at hk; exact hly k hk)) k_Sg_standLeaves l_Sg_47 (by decide +kernel) (by omega) rfl rfl rfl rfl (Nat.le_of_ble_eq_true rfl) (by decide) ⟨by decide, by decide⟩ ?_
  rintro σ3 ⟨t1, t2, t3, t4⟩
  have g3 : zGood σ3 1 := zGood_pr (fun a ha => t1 a (by omega) (by omega)) g2
  refine g_aload_n (i := 0) (by decide +kernel) rfl ?_
  refine g_cVV (st := []) (c_Sg_sortPresses hn g3) k_Sg_sortPresses l_Sg_50 (by decide +kernel) (by omega) rfl rfl rfl rfl (Nat.le_of_ble_eq_true rfl) (by decide) ⟨by decide, by decide⟩ ?_
  rintro σ4 ⟨u1, u2⟩
  refine g_aload_n (i := 0) (by decide +kernel) rfl ?_
  refine g_aload_n (i := 0) (by decide +kernel) rfl ?_
  refine g_getr f_Sg_33 (by decide +kernel) (by omega) rfl rfl ?_
  refine g_geti f_Sg_53 (by decide +kernel) (by omega) rfl rfl ?_
  refine g_puti f_Sg_56 (by decide +kernel) (by omega) rfl rfl ?_
  refine g_iconst (a := 0) (by decide +kernel) ?_
  refine g_istore_n (i := 1) (L' := [(0, _), (1, _)]) (by decide +kernel) rfl rfl ?_
  have L : ∀ a, a ≠ 33 → a ≠ 34 → a ≠ 43 → a ≠ 44 → zs σ4 33 7 (σ4 21 5) a = σ1 a := fun a h1 h2 h3 h4 => by rw [zs_other h1, u1 a h3, t1 a h4 h1, zs_other h2]
  exact zPrep_run hn hg hv hM hm L (by rw [zs_row, zu_ne (by decide), u1 33 (by decide)]; rw [t3, zs_other (by decide), zs_other (by decide)]) (by rw [zs_other (by decide), u1 44 (by decide)]; rw [zs_other (by decide), zs_other (by decide)] at t4; exact t4) (by
    intro j hj
    have q1 : zs σ4 33 7 (σ4 21 5) 1 = σ1 1 := L 1 (by decide) (by decide) (by decide) (by decide)
    have q10 : zs σ4 33 7 (σ4 21 5) 10 = σ1 10 := L 10 (by decide) (by decide) (by decide) (by decide)
    have q43 : zs σ4 33 7 (σ4 21 5) 43 = σ4 43 := zs_other (by decide)
    rw [q1] at hj ⊢
    rw [q10, q43]
    rw [t1 1 (by decide) (by decide), t1 10 (by decide) (by decide), zs_other (by decide), zs_other (by decide)] at u2
    exact u2 j hj) (by rw [zs_eq, L 21 (by decide) (by decide) (by decide) (by decide), u1 21 (by decide), t1 21 (by decide) (by decide), zs_other (by decide)]) (by rw [zs_other (by decide), u1 34 (by decide), t1 34 (by decide) (by decide)])
