/-! FIT AND SLACK of the class -/
theorem zfr_at {q : Nat → Bool} {i : Nat} : ∀ m t, t ≤ i → i < t + m → (∀ n, t ≤ n → n < i → q n = false) → q i = true → zfr q m t = (i : Int)
  | 0, t, h1, h2, _, _ => by omega
  | m + 1, t, h1, h2, h3, h4 => by
    rw [zfr_s]
    by_cases z : t = i
    · rw [z, if_pos h4]
    · rw [if_neg (by rw [h3 t (Nat.le_refl _) (by omega)]; decide)]
      exact zfr_at m (t + 1) (by omega) (by omega) (fun n a b => h3 n (by omega) b) h4
theorem zfr_no {q : Nat → Bool} : ∀ m t, (∀ n, t ≤ n → n < t + m → q n = false) → zfr q m t = -1
  | 0, _, _ => rfl
  | m + 1, t, h => by
    rw [zfr_s, if_neg (by rw [h t (Nat.le_refl _) (by omega)]; decide)]
    exact zfr_no m (t + 1) (fun n a b => h n (by omega) (by omega))
/-- how long the Show lasts with so much of a mark -/
noncomputable def zfm (S : zSt) (k q n : Nat) : Int := zlast (zOpM S k q (n : Int))
noncomputable def zfit (S : zSt) (k q : Nat) (l : Int) : Int := zfr (fun n => decide (zfm S k q n = l)) (zTab 1 q).toNat 1
noncomputable def zslk (S : zSt) (k : Nat) : Int := zfr (fun n => decide (zlast S < zlast (zOp6 S k (n : Int)))) (999 - (S 6 k).toNat) ((S 6 k).toNat + 1)
/-- what a trial leaves: the draft is the Show but for one number (row r, place j) -/
def zTry (σ τ : zSt) (r j : Nat) : Prop := (∀ a, (a < 11 ∨ (21 ≤ a ∧ a < 27) ∨ 33 ≤ a) → τ a = σ a) ∧ zGood τ 11 ∧ (∀ k, k < 12 → τ 32 k = 0 ∨ τ 32 k = 1) ∧ ∀ v, zSame2 (zs (zSv τ 11) r j v) (zs (zSv σ 1) r j v)
theorem zTry.cr {σ τ : zSt} {r j : Nat} {c : Int} (h : zTry σ τ r j) : zCr σ (zs τ 0 10 c) c := by
  obtain ⟨h1, h2, h3, -⟩ := h
  refine ⟨zs_eq _ _ _ _, fun j hj => by rw [zs_ne (fun y => hj y.2), h1 0 (by decide)], fun a h0 ha => by rw [zs_other h0, h1 a ha], zGood_eq (σ := τ) (fun r hr => zs_other (by omega)) h2, fun k hk => by rw [zs_other (by decide)]; exact h3 k hk⟩
theorem zTry.mk0 {σ τ : zSt} {r j : Nat} (hc : zCl σ) (h : zCopy σ τ 11 1) : zTry σ τ r j := ⟨fun a ha => h.df a (by omega), zGood_v.mp (h.sm.good (zGood_v.mpr hc.1.1)), by rw [h.df 32 (by omega)]; exact hc.2.2.2.2.1, fun v => h.sm.zs _ _ _⟩
theorem zTry.put {σ τ ω : zSt} {r j : Nat} {v : Int} (hr : r < 10) (h : zTry σ τ r j) (hg : zGood (zs (zSv σ 1) r j v) 0) (hw : ∀ a, (a < 27 ∨ 33 ≤ a) → ω a = zs τ (11 + r) j v a) (hO : ∀ k, k < 12 → ω 32 k = 0 ∨ ω 32 k = 1) : zTry σ ω r j := by
  obtain ⟨h1, h2, h3, h4⟩ := h
  have eS : ∀ q, q < 10 → zSv ω 11 q = zs (zSv τ 11) r j v q := fun q hq => by
    rw [← zSv_zs]
    exact hw (11 + q) (by omega)
  refine ⟨fun a ha => by rw [hw a (by omega), zs_other (by omega)]; exact h1 a ha, ?_, hO, fun v' => ?_⟩
  · exact zGood_v.mp ((zSame2.of eS).good ((h4 v).good hg))
  · refine ((zSame2.of eS).zs r j v').tr ?_
    rw [zs_zs]
    exact h4 v'
theorem zNod {r j : Nat} {S : zSt} {v : Int} : zs S r j v = zs S r j v := rfl
theorem c_Nc_lastsWithMark {G : zG} {n : Nat} {σ : zSt} {τ : zSt} {k q : Nat} {v : Int} (hn : 189 ≤ n) (hc0 : zCl σ) (hT : zTry σ τ 7 (9 * k + q)) (hk : k < (σ 1 0).toNat) (hq : q < 9) (hv : zmr q v) : Gm G y_Nc_lastsWithMark m_Nc_lastsWithMark 5 0 0 [vr G 0, vi (k : Int), vi (q : Int), vi v] n SH τ (zI n SH (fun a σ' => a = zlast (zOpM (zSv σ 1) k q v) ∧ zTry σ σ' 7 (9 * k + q))) := by
  refine g_enter (L := [(0, _), (1, _), (2, _), (3, _)]) (by decide) rfl rfl rfl (Nat.le_of_ble_eq_true rfl) (fun X => ?_)
  obtain ⟨ho, hR, hf, hD, hO, h951, h952⟩ := id hc0
  have hc := ho.1.1
  have hN : zN (zSv σ 1) = (σ 1 0).toNat := rfl
  have hg := ho.1.2.1
  have hF2 : zFin (zOpM (zSv σ 1) k q v) := zOpM_fin hf.1 hk hq hv
  refine g_aload_n (i := 0) (by decide +kernel) rfl ?_
  refine g_getr f_Nc_16 (by decide +kernel) (by omega) rfl rfl ?_
  refine g_iload_n (i := 1) (by decide +kernel) rfl ?_
  refine g_iload_n (i := 2) (by decide +kernel) rfl ?_
  refine g_iload_n (i := 3) (by decide +kernel) rfl ?_
  refine g_cVV (st := _) (c_Sh_putMark (b := 11) (k := k) (w := q) hn sh_11 (by omega) hq) k_Sh_putMark l_Nc_163 (by decide +kernel) (by omega) rfl rfl rfl rfl (Nat.le_of_ble_eq_true rfl) (by decide) ⟨by decide, by decide⟩ ?_
  rintro υ hυ
  have hs : zSame2 (zSv υ 11) (zOpM (zSv σ 1) k q v) := by rw [hυ, zSv_zs]; exact hT.2.2.2 v
  have o32 : ∀ j, j < 12 → υ 32 j = 0 ∨ υ 32 j = 1 := by rw [hυ, zs_other (by decide)]; exact hT.2.2.1
  refine g_aload_n (i := 0) (by decide +kernel) rfl ?_
  refine g_cVI (st := _) (c_Nc_draftLasts hn (hs.fin hF2) o32) k_Nc_draftLasts l_Nc_352 (by decide +kernel) (by omega) rfl rfl rfl rfl (Nat.le_of_ble_eq_true rfl) (by decide) ⟨by decide, by decide⟩ ?_
  rintro a9 ω ⟨ea9, ht, hO2⟩
  refine g_retI (by decide +kernel) rfl (Or.inl rfl) ⟨by decide, by decide⟩ ?_
  exact ⟨by rw [ea9, hs.last hF2], hT.put (by decide) hF2.1 (fun a ha => by rw [ht a ha, hυ]) hO2⟩
theorem w_Nc_leastRate {G : zG} {X : zX} {n : Nat} {σ : zSt} {k : Nat} {l : Int} (hn : 189 ≤ n) (hc0 : zCl σ) (hk : k < (σ 1 0).toNat) (hl : 0 ≤ l ∧ l ≤ 1999)  : ∀ (m : Nat) (i : Nat) (x3 : Int) (τ : zSt), x3 = (i : Int) → zTry σ τ 7 (9 * k + 1) → zfit (zSv σ 1) k 1 l = zfr (fun n => decide (zfm (zSv σ 1) k 1 n = l)) (5 - i) i → 1 ≤ i → i ≤ 5 → 5 < i + m → Go G X m_Nc_leastRate (6, 0, 0, 0, 0) n SH τ 17 [(0, vr G 0), (1, vi (k : Int)), (2, vi l), (3, vi x3)] [] (zI n SH (fun a σ' => a = zfit (zSv σ 1) k 1 l ∧ zTry σ σ' 7 (9 * k + 1))) := by
  intro m
  induction m with
  | zero => intro i x3 τ e3 hT ef h1 hi hm; exact absurd hm (by omega)
  | succ m ih =>
    intro i x3 τ e3 hT ef h1 hi hm
    obtain ⟨ho, hR, hf, hD, hO, h951, h952⟩ := id hc0
    have hc := ho.1.1
    have hN : zN (zSv σ 1) = (σ 1 0).toNat := rfl
    have hg := ho.1.2.1
    subst e3
    refine g_iload_n (i := 3) (by decide +kernel) rfl ?_
    refine g_gets (x := 157) 1 (by decide) (by decide +kernel) s_Nc_157 ?_
    refine g_iconst (a := 1) (by decide +kernel) ?_
    refine g_tald 1 (by decide) (j := 1) (by decide +kernel) rfl (by show _ < 9; omega) ?_
    refine g_icmp_gt (off := 22) (tgt := 45) (by decide +kernel) (by decide) ⟨by omega, by omega⟩ ⟨by show (-2147483648 : Int) ≤ 4; decide, by show (4 : Int) ≤ 2147483647; decide⟩ (fun h23 => ?_) (fun h23 => ?_)
    · have h23 : (4 : Int) < i := h23
      refine g_iconst (a := -1) (by decide +kernel) ?_
      refine g_retI (by decide +kernel) rfl (Or.inl rfl) ⟨by decide, by decide⟩ ?_
      have z : i = 5 := by omega
      subst z
      exact ⟨ef.symm, hT⟩
    · have h23 : (i : Int) ≤ 4 := h23
      have mv : zmr 1 (i : Int) := ⟨by show (1 : Int) ≤ i; omega, by show (i : Int) ≤ 4; omega⟩
      have es := zfr_s (fun n => decide (zfm (zSv σ 1) k 1 n = l)) (4 - i) i
      rw [show 4 - i + 1 = 5 - i by omega] at es
      rw [es] at ef
      refine g_aload_n (i := 0) (by decide +kernel) rfl ?_
      refine g_iload_n (i := 1) (by decide +kernel) rfl ?_
      refine g_iconst (a := 1) (by decide +kernel) ?_
      refine g_iload_n (i := 3) (by decide +kernel) rfl ?_
      refine g_cVI (st := _) (c_Nc_lastsWithMark (k := k) (q := 1) (v := (i : Int)) hn hc0 hT hk (by omega) mv) k_Nc_lastsWithMark l_Nc_376 (by decide +kernel) (by omega) rfl rfl rfl rfl (Nat.le_of_ble_eq_true rfl) (by decide) ⟨by decide, by decide⟩ ?_
      rintro a9 ω ⟨ea9, hW⟩
      have a9r := (zOpM_fin hf.1 hk (show 1 < 9 by omega) mv).lr
      rw [← ea9] at a9r
      refine g_iload_n (i := 2) (by decide +kernel) rfl ?_
      refine g_icmp_ne (off := 5) (tgt := 39) (by decide +kernel) (by decide) ⟨by omega, by omega⟩ ⟨by omega, by omega⟩ (fun h34 => ?_) (fun h34 => ?_)
      · refine g_iinc (i := 3) (b := 1) (L' := [(0, _), (1, _), (2, _), (3, _)]) (by decide +kernel) rfl rfl rfl ?_
        refine g_goto (off := -25) (tgt := 17) (by decide +kernel) (by decide) ?_
        rw [if_neg (fun y => by have y := of_decide_eq_true y; unfold zfm at y; omega)] at ef
        exact ih (i + 1) _ ω (by push_cast; rfl) hW (by rw [show 5 - (i + 1) = 4 - i by omega]; exact ef) (by omega) (by omega) (by omega)
      · refine g_iload_n (i := 3) (by decide +kernel) rfl ?_
        refine g_retI (by decide +kernel) rfl (Or.inl rfl) ⟨by decide, by decide⟩ ?_
        rw [if_pos (decide_eq_true (by unfold zfm; omega))] at ef
        exact ⟨ef.symm, hW⟩
theorem c_Nc_leastRate {G : zG} {n : Nat} {σ : zSt} {k : Nat} {l : Int} (hn : 189 ≤ n) (hc0 : zCl σ) (hk : k < (σ 1 0).toNat) (hl : 0 ≤ l ∧ l ≤ 1999) : Gm G y_Nc_leastRate m_Nc_leastRate 6 0 0 [vr G 0, vi (k : Int), vi l] n SH σ (zI n SH (fun a σ' => a = zfit (zSv σ 1) k 1 l ∧ zTry σ σ' 7 (9 * k + 1))) := by
  refine g_enter (L := [(0, _), (1, _), (2, _)]) (by decide) rfl rfl rfl (Nat.le_of_ble_eq_true rfl) (fun X => ?_)
  obtain ⟨ho, hR, hf, hD, hO, h951, h952⟩ := id hc0
  have hc := ho.1.1
  have hN : zN (zSv σ 1) = (σ 1 0).toNat := rfl
  have hg := ho.1.2.1
  
  refine g_aload_n (i := 0) (by decide +kernel) rfl ?_
  refine g_getr f_Nc_16 (by decide +kernel) (by omega) rfl rfl ?_
  refine g_aload_n (i := 0) (by decide +kernel) rfl ?_
  refine g_getr f_Nc_10 (by decide +kernel) (by omega) rfl rfl ?_
  refine g_cVV (st := _) (c_Sh_copyFrom (b := 11) (f := 1) hn sh_11 sh_1 (Or.inr (by omega))) k_Sh_copyFrom l_Nc_128 (by decide +kernel) (by omega) rfl rfl rfl rfl (Nat.le_of_ble_eq_true rfl) (by decide) ⟨by decide, by decide⟩ ?_
  rintro τ hC
  have gT : zGood τ 11 := zGood_v.mp (hC.sm.good (zGood_v.mpr ho.1))
  refine g_gets (x := 154) 0 (by decide) (by decide +kernel) s_Nc_154 ?_
  refine g_iconst (a := 1) (by decide +kernel) ?_
  refine g_tald 0 (by decide) (j := 1) (by decide +kernel) rfl (by show _ < 9; omega) ?_
  refine g_istore_n (i := 3) (L' := [(0, _), (1, _), (2, _), (3, _)]) (by decide +kernel) rfl rfl ?_
  exact w_Nc_leastRate hn hc0 hk hl 5 1 _ τ rfl (zTry.mk0 hc0 hC) rfl (by omega) (by omega) (by omega)
theorem zfm_up {σ : zSt} {k q M : Nat} (hf : zFin (zSv σ 1)) (hk : k < (σ 1 0).toNat) (hq : q = 0 ∨ q = 2) (hM : (M : Int) = zTab 1 q) {a b : Nat} (h1 : 1 ≤ a) (h2 : a ≤ b) (h3 : b ≤ M) : zfm (zSv σ 1) k q a ≤ zfm (zSv σ 1) k q b := by
  have t0 : zTab 0 q ≤ 1 := (zTab_r (q := q) (by omega)).1.2
  exact zOpM_up hf hk hq (by omega) (by omega) ⟨by omega, by omega⟩ ⟨by omega, by omega⟩
theorem zhalf {lo hi i : Nat} (h : hi - lo < 2 ^ (10 - i)) (hi1 : i < 10) (hl : lo < hi) : (lo + hi) / 2 - lo < 2 ^ (10 - (i + 1)) ∧ hi - ((lo + hi) / 2 + 1) < 2 ^ (10 - (i + 1)) := by
  have e : 2 ^ (10 - i) = 2 * 2 ^ (10 - (i + 1)) := by rw [show 10 - i = (10 - (i + 1)) + 1 by omega, Nat.pow_succ, Nat.mul_comm]
  omega
theorem w_Nc_leastMark {G : zG} {X : zX} {n : Nat} {σ : zSt} {k q M : Nat} {l : Int} (hn : 189 ≤ n) (hc0 : zCl σ) (hk : k < (σ 1 0).toNat) (hq : q = 0 ∨ q = 2) (hM : (M : Int) = zTab 1 q) (hl : 0 ≤ l ∧ l ≤ 1999)  : ∀ (m : Nat) (i lo hi : Nat) (x4 x5 x6 : Int) (τ : zSt), x6 = (i : Int) → x4 = (lo : Int) → x5 = (hi : Int) → zTry σ τ 7 (9 * k + q) → (1 ≤ lo ∧ lo ≤ hi ∧ hi ≤ M + 1) → (hi - lo < 2 ^ (10 - i)) → (∀ n, 1 ≤ n → n < lo → zfm (zSv σ 1) k q n < l) → (∀ n, hi ≤ n → n ≤ M → l ≤ zfm (zSv σ 1) k q n) → i ≤ 10 → 10 < i + m → Go G X m_Nc_leastMark (6, 0, 0, 0, 0) n SH τ 26 [(0, vr G 0), (1, vi (k : Int)), (2, vi (q : Int)), (3, vi l), (4, vi x4), (5, vi x5), (6, vi x6)] [] (zI n SH (fun a σ' => a = zfit (zSv σ 1) k q l ∧ zTry σ σ' 7 (9 * k + q))) := by
  intro m
  induction m with
  | zero => intro i lo hi x4 x5 x6 τ e6 e4 e5 hT hb hsz hlo hhi hi10 hm; exact absurd hm (by omega)
  | succ m ih =>
    intro i lo hi x4 x5 x6 τ e6 e4 e5 hT hb hsz hlo hhi hi10 hm
    obtain ⟨ho, hR, hf, hD, hO, h951, h952⟩ := id hc0
    have hc := ho.1.1
    have hN : zN (zSv σ 1) = (σ 1 0).toNat := rfl
    have hg := ho.1.2.1
    subst e6 e4 e5
    have tb := zTab_r (q := q) (by omega)
    have J80 : lo = hi → Go G X m_Nc_leastMark (6, 0, 0, 0, 0) n SH τ 80 [(0, vr G 0), (1, vi (k : Int)), (2, vi (q : Int)), (3, vi l), (4, vi (lo : Int)), (5, vi (hi : Int)), (6, vi (i : Int))] [] (zI n SH (fun a σ' => a = zfit (zSv σ 1) k q l ∧ zTry σ σ' 7 (9 * k + q))) := by
      intro eq
      refine g_iload (i := 5) (by decide +kernel) rfl ?_
      refine g_gets (x := 157) 1 (by decide) (by decide +kernel) s_Nc_157 ?_
      refine g_iload_n (i := 2) (by decide +kernel) rfl ?_
      refine g_tald 1 (by decide) (j := q) (by decide +kernel) rfl (by show _ < 9; omega) ?_
      refine g_icmp_gt (off := 20) (tgt := 107) (by decide +kernel) (by decide) ⟨by omega, by omega⟩ ⟨by omega, by omega⟩ (fun h87 => ?_) (fun h87 => ?_)
      · refine g_iconst (a := -1) (by decide +kernel) ?_
        refine g_retI (by decide +kernel) rfl (Or.inl rfl) ⟨by decide, by decide⟩ ?_
        first
          | (have hz : a9 = l := h99
             refine ⟨?_, hW⟩
             unfold zfit
             exact (zfr_at _ 1 (by omega) (by omega) (fun n a b => decide_eq_false (by have := hlo n a (by omega); omega)) (decide_eq_true (by unfold zfm; omega))).symm)
          | (have hz : a9 ≠ l := h99
             refine ⟨?_, hW⟩
             unfold zfit
             refine (zfr_no _ 1 (fun n a b => decide_eq_false ?_)).symm
             by_cases c : n < hi
             · have := hlo n a (by omega); omega
             · have u := zfm_up hf.1 hk hq hM (show 1 ≤ hi by omega) (show hi ≤ n by omega) (by omega)
               have w := hhi hi (Nat.le_refl _) (by omega)
               have e9 : a9 = zfm (zSv σ 1) k q hi := ea9
               omega)
          | (refine ⟨?_, hT⟩
             unfold zfit
             refine (zfr_no _ 1 (fun n a b => decide_eq_false ?_)).symm
             have := hlo n a (by omega)
             omega)
      · have mv : zmr q (hi : Int) := ⟨by omega, by omega⟩
        refine g_aload_n (i := 0) (by decide +kernel) rfl ?_
        refine g_iload_n (i := 1) (by decide +kernel) rfl ?_
        refine g_iload_n (i := 2) (by decide +kernel) rfl ?_
        refine g_iload (i := 5) (by decide +kernel) rfl ?_
        refine g_cVI (st := _) (c_Nc_lastsWithMark (k := k) (q := q) (v := (hi : Int)) hn hc0 hT hk (by omega) mv) k_Nc_lastsWithMark l_Nc_376 (by decide +kernel) (by omega) rfl rfl rfl rfl (Nat.le_of_ble_eq_true rfl) (by decide) ⟨by decide, by decide⟩ ?_
        rintro a9 ω ⟨ea9, hW⟩
        have a9r := (zOpM_fin hf.1 hk (show q < 9 by omega) mv).lr
        rw [← ea9] at a9r
        refine g_iload_n (i := 3) (by decide +kernel) rfl ?_
        refine g_icmp_ne (off := 8) (tgt := 107) (by decide +kernel) (by decide) ⟨by omega, by omega⟩ ⟨by omega, by omega⟩ (fun h99 => ?_) (fun h99 => ?_)
        · refine g_iconst (a := -1) (by decide +kernel) ?_
          refine g_retI (by decide +kernel) rfl (Or.inl rfl) ⟨by decide, by decide⟩ ?_
          first
            | (have hz : a9 = l := h99
               refine ⟨?_, hW⟩
               unfold zfit
               exact (zfr_at _ 1 (by omega) (by omega) (fun n a b => decide_eq_false (by have := hlo n a (by omega); omega)) (decide_eq_true (by unfold zfm; omega))).symm)
            | (have hz : a9 ≠ l := h99
               refine ⟨?_, hW⟩
               unfold zfit
               refine (zfr_no _ 1 (fun n a b => decide_eq_false ?_)).symm
               by_cases c : n < hi
               · have := hlo n a (by omega); omega
               · have u := zfm_up hf.1 hk hq hM (show 1 ≤ hi by omega) (show hi ≤ n by omega) (by omega)
                 have w := hhi hi (Nat.le_refl _) (by omega)
                 have e9 : a9 = zfm (zSv σ 1) k q hi := ea9
                 omega)
            | (refine ⟨?_, hT⟩
               unfold zfit
               refine (zfr_no _ 1 (fun n a b => decide_eq_false ?_)).symm
               have := hlo n a (by omega)
               omega)
        · refine g_iload (i := 5) (by decide +kernel) rfl ?_
          refine g_goto (off := 4) (tgt := 108) (by decide +kernel) (by decide) ?_
          refine g_retI (by decide +kernel) rfl (Or.inl rfl) ⟨by decide, by decide⟩ ?_
          first
            | (have hz : a9 = l := h99
               refine ⟨?_, hW⟩
               unfold zfit
               exact (zfr_at _ 1 (by omega) (by omega) (fun n a b => decide_eq_false (by have := hlo n a (by omega); omega)) (decide_eq_true (by unfold zfm; omega))).symm)
            | (have hz : a9 ≠ l := h99
               refine ⟨?_, hW⟩
               unfold zfit
               refine (zfr_no _ 1 (fun n a b => decide_eq_false ?_)).symm
               by_cases c : n < hi
               · have := hlo n a (by omega); omega
               · have u := zfm_up hf.1 hk hq hM (show 1 ≤ hi by omega) (show hi ≤ n by omega) (by omega)
                 have w := hhi hi (Nat.le_refl _) (by omega)
                 have e9 : a9 = zfm (zSv σ 1) k q hi := ea9
                 omega)
            | (refine ⟨?_, hT⟩
               unfold zfit
               refine (zfr_no _ 1 (fun n a b => decide_eq_false ?_)).symm
               have := hlo n a (by omega)
               omega)
    refine g_iload (i := 6) (by decide +kernel) rfl ?_
    refine g_bipush (a := 10) (by decide +kernel) (by decide) ?_
    refine g_icmp_ge (off := 50) (tgt := 80) (by decide +kernel) (by decide) ⟨by omega, by omega⟩ ⟨by omega, by omega⟩ (fun h30 => ?_) (fun h30 => ?_)
    · refine J80 ?_
      first
        | omega
        | (have z : i = 10 := by omega
           subst z
           have e : (2 : Nat) ^ (10 - 10) = 1 := rfl
           rw [e] at hsz
           omega)
    · refine g_iload (i := 4) (by decide +kernel) rfl ?_
      refine g_iload (i := 5) (by decide +kernel) rfl ?_
      refine g_icmp_ge (off := 43) (tgt := 80) (by decide +kernel) (by decide) ⟨by omega, by omega⟩ ⟨by omega, by omega⟩ (fun h37 => ?_) (fun h37 => ?_)
      · refine J80 ?_
        first
          | omega
          | (have z : i = 10 := by omega
             subst z
             have e : (2 : Nat) ^ (10 - 10) = 1 := rfl
             rw [e] at hsz
             omega)
      · obtain ⟨md, emd⟩ : ∃ md : Nat, md = (lo + hi) / 2 := ⟨_, rfl⟩
        have hh := zhalf hsz (by omega) (by omega)
        rw [← emd] at hh
        have emd2 : ((lo : Int) + (hi : Int)) / 2 = (md : Int) := by omega
        have mv : zmr q (md : Int) := ⟨by omega, by omega⟩
        refine g_iload (i := 4) (by decide +kernel) rfl ?_
        refine g_iload (i := 5) (by decide +kernel) rfl ?_
        refine g_iadd (by decide +kernel) ?_
        refine g_iconst (a := 2) (by decide +kernel) ?_
        refine g_idiv (by decide +kernel) ⟨by omega, by omega, by omega, by omega⟩ ?_
        rw [emd2]
        refine g_istore (i := 7) (L' := [(0, _), (1, _), (2, _), (3, _), (4, _), (5, _), (6, _), (7, _)]) (by decide +kernel) rfl rfl ?_
        refine g_aload_n (i := 0) (by decide +kernel) rfl ?_
        refine g_iload_n (i := 1) (by decide +kernel) rfl ?_
        refine g_iload_n (i := 2) (by decide +kernel) rfl ?_
        refine g_iload (i := 7) (by decide +kernel) rfl ?_
        refine g_cVI (st := _) (c_Nc_lastsWithMark (k := k) (q := q) (v := (md : Int)) hn hc0 hT hk (by omega) mv) k_Nc_lastsWithMark l_Nc_376 (by decide +kernel) (by omega) rfl rfl rfl rfl (Nat.le_of_ble_eq_true rfl) (by decide) ⟨by decide, by decide⟩ ?_
        rintro a9 ω ⟨ea9, hW⟩
        have a9r := (zOpM_fin hf.1 hk (show q < 9 by omega) mv).lr
        rw [← ea9] at a9r
        refine g_iload_n (i := 3) (by decide +kernel) rfl ?_
        refine g_icmp_lt (off := 10) (tgt := 68) (by decide +kernel) (by decide) ⟨by omega, by omega⟩ ⟨by omega, by omega⟩ (fun h58 => ?_) (fun h58 => ?_)
        · refine g_iload (i := 7) (by decide +kernel) rfl ?_
          refine g_iconst (a := 1) (by decide +kernel) ?_
          refine g_iadd (by decide +kernel) ?_
          refine g_istore (i := 4) (L' := [(0, _), (1, _), (2, _), (3, _), (4, _), (5, _), (6, _), (7, _)]) (by decide +kernel) rfl rfl ?_
          refine g_iinc (i := 6) (b := 1) (L' := [(0, _), (1, _), (2, _), (3, _), (4, _), (5, _), (6, _), (7, _)]) (by decide +kernel) rfl rfl rfl ?_
          refine g_goto (off := -51) (tgt := 26) (by decide +kernel) (by decide) ?_
          refine g_less [0, 1, 2, 3, 4, 5, 6] rfl ?_
          have e9 : a9 = zfm (zSv σ 1) k q md := ea9
          first
            | (have hz : a9 < l := h58
               refine ih (i + 1) (md + 1) hi _ _ _ ω (by push_cast; rfl) (by push_cast; rfl) rfl hW (by omega) hh.2 (fun n a b => ?_) hhi (by omega) (by omega)
               have := zfm_up hf.1 hk hq hM a (show n ≤ md by omega) (by omega)
               omega)
            | (have hz : l ≤ a9 := h58
               refine ih (i + 1) lo md _ _ _ ω (by push_cast; rfl) rfl rfl hW (by omega) hh.1 hlo (fun n a b => ?_) (by omega) (by omega)
               have := zfm_up hf.1 hk hq hM (show 1 ≤ md by omega) a b
               omega)
        · refine g_iload (i := 7) (by decide +kernel) rfl ?_
          refine g_istore (i := 5) (L' := [(0, _), (1, _), (2, _), (3, _), (4, _), (5, _), (6, _), (7, _)]) (by decide +kernel) rfl rfl ?_
          refine g_goto (off := 9) (tgt := 74) (by decide +kernel) (by decide) ?_
          refine g_iinc (i := 6) (b := 1) (L' := [(0, _), (1, _), (2, _), (3, _), (4, _), (5, _), (6, _), (7, _)]) (by decide +kernel) rfl rfl rfl ?_
          refine g_goto (off := -51) (tgt := 26) (by decide +kernel) (by decide) ?_
          refine g_less [0, 1, 2, 3, 4, 5, 6] rfl ?_
          have e9 : a9 = zfm (zSv σ 1) k q md := ea9
          first
            | (have hz : a9 < l := h58
               refine ih (i + 1) (md + 1) hi _ _ _ ω (by push_cast; rfl) (by push_cast; rfl) rfl hW (by omega) hh.2 (fun n a b => ?_) hhi (by omega) (by omega)
               have := zfm_up hf.1 hk hq hM a (show n ≤ md by omega) (by omega)
               omega)
            | (have hz : l ≤ a9 := h58
               refine ih (i + 1) lo md _ _ _ ω (by push_cast; rfl) rfl rfl hW (by omega) hh.1 hlo (fun n a b => ?_) (by omega) (by omega)
               have := zfm_up hf.1 hk hq hM (show 1 ≤ md by omega) a b
               omega)
theorem c_Nc_leastMark {G : zG} {n : Nat} {σ : zSt} {k q M : Nat} {l : Int} (hn : 189 ≤ n) (hc0 : zCl σ) (hk : k < (σ 1 0).toNat) (hq : q = 0 ∨ q = 2) (hM : (M : Int) = zTab 1 q) (hl : 0 ≤ l ∧ l ≤ 1999) : Gm G y_Nc_leastMark m_Nc_leastMark 6 0 0 [vr G 0, vi (k : Int), vi (q : Int), vi l] n SH σ (zI n SH (fun a σ' => a = zfit (zSv σ 1) k q l ∧ zTry σ σ' 7 (9 * k + q))) := by
  refine g_enter (L := [(0, _), (1, _), (2, _), (3, _)]) (by decide) rfl rfl rfl (Nat.le_of_ble_eq_true rfl) (fun X => ?_)
  obtain ⟨ho, hR, hf, hD, hO, h951, h952⟩ := id hc0
  have hc := ho.1.1
  have hN : zN (zSv σ 1) = (σ 1 0).toNat := rfl
  have hg := ho.1.2.1
  have tb := zTab_r (q := q) (by omega)
  refine g_iconst (a := 1) (by decide +kernel) ?_
  refine g_istore (i := 4) (L' := [(0, _), (1, _), (2, _), (3, _), (4, _)]) (by decide +kernel) rfl rfl ?_
  refine g_gets (x := 157) 1 (by decide) (by decide +kernel) s_Nc_157 ?_
  refine g_iload_n (i := 2) (by decide +kernel) rfl ?_
  refine g_tald 1 (by decide) (j := q) (by decide +kernel) rfl (by show _ < 9; omega) ?_
  refine g_iconst (a := 1) (by decide +kernel) ?_
  refine g_iadd (by decide +kernel) ?_
  refine g_istore (i := 5) (L' := [(0, _), (1, _), (2, _), (3, _), (4, _), (5, _)]) (by decide +kernel) rfl rfl ?_
  refine g_aload_n (i := 0) (by decide +kernel) rfl ?_
  refine g_getr f_Nc_16 (by decide +kernel) (by omega) rfl rfl ?_
  refine g_aload_n (i := 0) (by decide +kernel) rfl ?_
  refine g_getr f_Nc_10 (by decide +kernel) (by omega) rfl rfl ?_
  refine g_cVV (st := _) (c_Sh_copyFrom (b := 11) (f := 1) hn sh_11 sh_1 (Or.inr (by omega))) k_Sh_copyFrom l_Nc_128 (by decide +kernel) (by omega) rfl rfl rfl rfl (Nat.le_of_ble_eq_true rfl) (by decide) ⟨by decide, by decide⟩ ?_
  rintro τ hC
  have gT : zGood τ 11 := zGood_v.mp (hC.sm.good (zGood_v.mpr ho.1))
  refine g_iconst (a := 0) (by decide +kernel) ?_
  refine g_istore (i := 6) (L' := [(0, _), (1, _), (2, _), (3, _), (4, _), (5, _), (6, _)]) (by decide +kernel) rfl rfl ?_
  refine w_Nc_leastMark hn hc0 hk hq hM hl 11 0 1 (M + 1) _ _ _ τ rfl rfl (by push_cast; omega) (zTry.mk0 hc0 hC) (by omega) (by have e : (2 : Nat) ^ (10 - 0) = 1024 := rfl; rw [e]; omega) (fun n a b => by omega) (fun n a b => by omega) (by omega) (by omega)
def zAsk (σ σ' : zSt) (a w v : Int) : Prop := zCr σ σ' w ∧ a = (if w = 0 then v else -1)
theorem zAsk.no {σ : zSt} {w c v : Int} (hc : zCl σ) (hw : w = c) (h0 : c ≠ 0) : zAsk σ (zs σ 0 10 c) (-1) w v := ⟨by rw [hw]; exact zCr_no hc, by rw [if_neg (by rw [hw]; exact h0)]⟩
theorem c_Nc_fit {G : zG} {n : Nat} {σ : zSt} {c w l : Int} (hn : 189 ≤ n) (hc0 : zCl σ) (z1 : zr c) (z2 : zr w) (z3 : zr l) : Gm G y_Nc_fit m_Nc_fit 7 0 0 [vr G 0, vi c, vi w, vi l] n SH σ (zI n SH (fun a σ' => zAsk σ σ' a (if w < 0 ∨ 2 < w ∨ ¬ (0 ≤ l ∧ l ≤ 1999) then 1 else if ¬ (0 ≤ c ∧ c < σ 1 0) then 2 else if zfit (zSv σ 1) c.toNat w.toNat l = -1 then 8 else 0) (zfit (zSv σ 1) c.toNat w.toNat l))) := by
  refine g_enter (L := [(0, _), (1, _), (2, _), (3, _)]) (by decide) rfl rfl rfl (Nat.le_of_ble_eq_true rfl) (fun X => ?_)
  obtain ⟨ho, hR, hf, hD, hO, h951, h952⟩ := id hc0
  have hc := ho.1.1
  have hN : zN (zSv σ 1) = (σ 1 0).toNat := rfl
  have hg := ho.1.2.1
  obtain ⟨z1a, z1b⟩ := id z1
  obtain ⟨z2a, z2b⟩ := id z2
  obtain ⟨z3a, z3b⟩ := id z3
  have J60 : ∀ (v : Int) (τ : zSt) (r j : Nat), zTry σ τ r j → v = zfit (zSv σ 1) c.toNat w.toNat l → ¬ (w < 0 ∨ 2 < w ∨ ¬ (0 ≤ l ∧ l ≤ 1999)) → (0 ≤ c ∧ c < σ 1 0) → Go G X m_Nc_fit (7, 0, 0, 0, 0) n SH τ 60 [(0, vr G 0), (1, vi c), (2, vi w), (3, vi l)] [vi v] (zI n SH (fun a σ' => zAsk σ σ' a (if w < 0 ∨ 2 < w ∨ ¬ (0 ≤ l ∧ l ≤ 1999) then 1 else if ¬ (0 ≤ c ∧ c < σ 1 0) then 2 else if zfit (zSv σ 1) c.toNat w.toNat l = -1 then 8 else 0) (zfit (zSv σ 1) c.toNat w.toNat l))) := by
    intro v τ r j hT ev c1 c2
    have vr0 := zfr_in (q := fun n => decide (zfm (zSv σ 1) c.toNat w.toNat n = l)) (zTab 1 w.toNat).toNat 1
    have tb := zTab_r (q := w.toNat) (by omega)
    have ev2 : v = zfr (fun n => decide (zfm (zSv σ 1) c.toNat w.toNat n = l)) (zTab 1 w.toNat).toNat 1 := ev
    refine g_istore (i := 4) (L' := [(0, _), (1, _), (2, _), (3, _), (4, _)]) (by decide +kernel) rfl rfl ?_
    refine g_iload (i := 4) (by decide +kernel) rfl ?_
    refine g_iconst (a := -1) (by decide +kernel) ?_
    refine g_icmp_ne (off := 12) (tgt := 77) (by decide +kernel) (by decide) ⟨by omega, by omega⟩ ⟨by omega, by omega⟩ (fun h65 => ?_) (fun h65 => ?_)
    · refine g_aload_n (i := 0) (by decide +kernel) rfl ?_
      refine g_iload (i := 4) (by decide +kernel) rfl ?_
      refine g_cVI (st := _) (c_Nc_give hn) k_Nc_give l_Nc_208 (by decide +kernel) (by omega) rfl rfl rfl rfl (Nat.le_of_ble_eq_true rfl) (by decide) ⟨by decide, by decide⟩ ?_
      rintro a9 σ9 ⟨ea9, hσ9⟩
      obtain rfl := ea9.symm
      subst hσ9
      refine g_retI (by decide +kernel) rfl (Or.inl rfl) ⟨by decide, by decide⟩ ?_
      first
        | (have hz : v = -1 := h65
           have e : (if w < 0 ∨ 2 < w ∨ ¬ (0 ≤ l ∧ l ≤ 1999) then 1 else if ¬ (0 ≤ c ∧ c < σ 1 0) then 2 else if zfit (zSv σ 1) c.toNat w.toNat l = -1 then 8 else 0) = (8 : Int) := by rw [if_neg c1, if_neg (fun y => y c2), if_pos (by rw [← ev]; exact hz)]
           rw [e]
           exact ⟨hT.cr, by rw [if_neg (by decide)]⟩)
        | (have hz : v ≠ -1 := h65
           have e : (if w < 0 ∨ 2 < w ∨ ¬ (0 ≤ l ∧ l ≤ 1999) then 1 else if ¬ (0 ≤ c ∧ c < σ 1 0) then 2 else if zfit (zSv σ 1) c.toNat w.toNat l = -1 then 8 else 0) = (0 : Int) := by rw [if_neg c1, if_neg (fun y => y c2), if_neg (by rw [← ev]; exact hz)]
           rw [e]
           exact ⟨hT.cr, by rw [if_pos rfl]; exact ev⟩)
    · refine g_aload_n (i := 0) (by decide +kernel) rfl ?_
      refine g_bipush (a := 8) (by decide +kernel) (by decide) ?_
      refine g_cVI (st := _) (c_Nc_refuse hn) k_Nc_refuse l_Nc_97 (by decide +kernel) (by omega) rfl rfl rfl rfl (Nat.le_of_ble_eq_true rfl) (by decide) ⟨by decide, by decide⟩ ?_
      rintro a9 σ9 ⟨ea9, hσ9⟩
      obtain rfl := ea9.symm
      subst hσ9
      refine g_goto (off := 9) (tgt := 83) (by decide +kernel) (by decide) ?_
      refine g_retI (by decide +kernel) rfl (Or.inl rfl) ⟨by decide, by decide⟩ ?_
      first
        | (have hz : v = -1 := h65
           have e : (if w < 0 ∨ 2 < w ∨ ¬ (0 ≤ l ∧ l ≤ 1999) then 1 else if ¬ (0 ≤ c ∧ c < σ 1 0) then 2 else if zfit (zSv σ 1) c.toNat w.toNat l = -1 then 8 else 0) = (8 : Int) := by rw [if_neg c1, if_neg (fun y => y c2), if_pos (by rw [← ev]; exact hz)]
           rw [e]
           exact ⟨hT.cr, by rw [if_neg (by decide)]⟩)
        | (have hz : v ≠ -1 := h65
           have e : (if w < 0 ∨ 2 < w ∨ ¬ (0 ≤ l ∧ l ≤ 1999) then 1 else if ¬ (0 ≤ c ∧ c < σ 1 0) then 2 else if zfit (zSv σ 1) c.toNat w.toNat l = -1 then 8 else 0) = (0 : Int) := by rw [if_neg c1, if_neg (fun y => y c2), if_neg (by rw [← ev]; exact hz)]
           rw [e]
           exact ⟨hT.cr, by rw [if_pos rfl]; exact ev⟩)
  refine g_iload_n (i := 2) (by decide +kernel) rfl ?_
  refine g_if_lt (off := 15) (tgt := 16) (by decide +kernel) (by decide) ⟨by omega, by omega⟩ (fun h1 => ?_) (fun h1 => ?_)
  · refine g_aload_n (i := 0) (by decide +kernel) rfl ?_
    refine g_iconst (a := 1) (by decide +kernel) ?_
    refine g_cVI (st := _) (c_Nc_refuse hn) k_Nc_refuse l_Nc_97 (by decide +kernel) (by omega) rfl rfl rfl rfl (Nat.le_of_ble_eq_true rfl) (by decide) ⟨by decide, by decide⟩ ?_
    rintro a9 σ9 ⟨ea9, hσ9⟩
    obtain rfl := ea9.symm
    subst hσ9
    refine g_retI (by decide +kernel) rfl (Or.inl rfl) ⟨by decide, by decide⟩ ?_
    exact zAsk.no hc0 (if_pos (by omega)) (by decide)
  · refine g_iload_n (i := 2) (by decide +kernel) rfl ?_
    refine g_iconst (a := 2) (by decide +kernel) ?_
    refine g_icmp_gt (off := 10) (tgt := 16) (by decide +kernel) (by decide) ⟨by omega, by omega⟩ ⟨by omega, by omega⟩ (fun h6 => ?_) (fun h6 => ?_)
    · refine g_aload_n (i := 0) (by decide +kernel) rfl ?_
      refine g_iconst (a := 1) (by decide +kernel) ?_
      refine g_cVI (st := _) (c_Nc_refuse hn) k_Nc_refuse l_Nc_97 (by decide +kernel) (by omega) rfl rfl rfl rfl (Nat.le_of_ble_eq_true rfl) (by decide) ⟨by decide, by decide⟩ ?_
      rintro a9 σ9 ⟨ea9, hσ9⟩
      obtain rfl := ea9.symm
      subst hσ9
      refine g_retI (by decide +kernel) rfl (Or.inl rfl) ⟨by decide, by decide⟩ ?_
      exact zAsk.no hc0 (if_pos (by omega)) (by decide)
    · refine g_iload_n (i := 3) (by decide +kernel) rfl ?_
      refine g_cSI (st := _) (c_Nc_isTime z3) k_Nc_isTime l_Nc_187 (by decide +kernel) rfl rfl (Nat.le_of_ble_eq_true rfl) (by decide) ⟨by decide, by decide⟩ ?_
      rintro a σ9 ⟨ea, hσ⟩
      obtain rfl := hσ.symm
      subst ea
      refine g_if_ne (off := 9) (tgt := 22) (by decide +kernel) (by decide) zbr (fun h13 => ?_) (fun h13 => ?_)
      · have h13 := zb1.mp h13
        refine g_aload_n (i := 0) (by decide +kernel) rfl ?_
        refine g_getr f_Nc_10 (by decide +kernel) (by omega) rfl rfl ?_
        refine g_iload_n (i := 1) (by decide +kernel) rfl ?_
        refine g_cVI (st := _) (c_Sh_has (b := 1) hn sh_1 z1 ⟨hc.1, hc.2.1⟩) k_Sh_has l_Nc_117 (by decide +kernel) (by omega) rfl rfl rfl rfl (Nat.le_of_ble_eq_true rfl) (by decide) ⟨by decide, by decide⟩ ?_
        rintro a σ9 ⟨ea, hσ⟩
        obtain rfl := hσ.symm
        subst ea
        refine g_if_ne (off := 9) (tgt := 39) (by decide +kernel) (by decide) zbr (fun h30 => ?_) (fun h30 => ?_)
        · have h30 := zb1.mp h30
          obtain ⟨k, rfl⟩ := Int.eq_ofNat_of_zero_le h30.1
          have kN : k < (σ 1 0).toNat := by omega
          refine g_iload_n (i := 2) (by decide +kernel) rfl ?_
          refine g_iconst (a := 1) (by decide +kernel) ?_
          refine g_icmp_ne (off := 12) (tgt := 53) (by decide +kernel) (by decide) ⟨by omega, by omega⟩ ⟨by omega, by omega⟩ (fun h41 => ?_) (fun h41 => ?_)
          · refine g_aload_n (i := 0) (by decide +kernel) rfl ?_
            refine g_iload_n (i := 1) (by decide +kernel) rfl ?_
            refine g_iload_n (i := 2) (by decide +kernel) rfl ?_
            refine g_iload_n (i := 3) (by decide +kernel) rfl ?_
            obtain ⟨q, rfl⟩ := Int.eq_ofNat_of_zero_le (show 0 ≤ w by omega)
            obtain ⟨M, hM⟩ := Int.eq_ofNat_of_zero_le (zTab_r (q := q) (by omega)).2.1
            refine g_cVI (st := _) (c_Nc_leastMark (k := k) (q := q) (M := M) (l := l) hn hc0 kN (by omega) hM.symm (by omega)) k_Nc_leastMark l_Nc_349 (by decide +kernel) (by omega) rfl rfl rfl rfl (Nat.le_of_ble_eq_true rfl) (by decide) ⟨by decide, by decide⟩ ?_
            rintro a9 τ ⟨ea9, hT⟩
            first
              | (have hz : w = 1 := h41
                 exact J60 _ τ _ _ hT (by rw [ea9, Int.toNat_natCast, hz]; rfl) (by omega) h30)
              | exact J60 _ τ _ _ hT (by rw [ea9, Int.toNat_natCast, Int.toNat_natCast]) (by omega) h30
          · refine g_aload_n (i := 0) (by decide +kernel) rfl ?_
            refine g_iload_n (i := 1) (by decide +kernel) rfl ?_
            refine g_iload_n (i := 3) (by decide +kernel) rfl ?_
            refine g_cVI (st := _) (c_Nc_leastRate (k := k) (l := l) hn hc0 kN (by omega)) k_Nc_leastRate l_Nc_346 (by decide +kernel) (by omega) rfl rfl rfl rfl (Nat.le_of_ble_eq_true rfl) (by decide) ⟨by decide, by decide⟩ ?_
            rintro a9 τ ⟨ea9, hT⟩
            refine g_goto (off := 10) (tgt := 60) (by decide +kernel) (by decide) ?_
            first
              | (have hz : w = 1 := h41
                 exact J60 _ τ _ _ hT (by rw [ea9, Int.toNat_natCast, hz]; rfl) (by omega) h30)
              | exact J60 _ τ _ _ hT (by rw [ea9, Int.toNat_natCast, Int.toNat_natCast]) (by omega) h30
        · have h30 := zb0.mp h30
          refine g_aload_n (i := 0) (by decide +kernel) rfl ?_
          refine g_iconst (a := 2) (by decide +kernel) ?_
          refine g_cVI (st := _) (c_Nc_refuse hn) k_Nc_refuse l_Nc_97 (by decide +kernel) (by omega) rfl rfl rfl rfl (Nat.le_of_ble_eq_true rfl) (by decide) ⟨by decide, by decide⟩ ?_
          rintro a9 σ9 ⟨ea9, hσ9⟩
          obtain rfl := ea9.symm
          subst hσ9
          refine g_retI (by decide +kernel) rfl (Or.inl rfl) ⟨by decide, by decide⟩ ?_
          exact zAsk.no hc0 (by rw [if_neg (by omega), if_pos h30]) (by decide)
      · have h13 := zb0.mp h13
        refine g_aload_n (i := 0) (by decide +kernel) rfl ?_
        refine g_iconst (a := 1) (by decide +kernel) ?_
        refine g_cVI (st := _) (c_Nc_refuse hn) k_Nc_refuse l_Nc_97 (by decide +kernel) (by omega) rfl rfl rfl rfl (Nat.le_of_ble_eq_true rfl) (by decide) ⟨by decide, by decide⟩ ?_
        rintro a9 σ9 ⟨ea9, hσ9⟩
        obtain rfl := ea9.symm
        subst hσ9
        refine g_retI (by decide +kernel) rfl (Or.inl rfl) ⟨by decide, by decide⟩ ?_
        exact zAsk.no hc0 (if_pos (by omega)) (by decide)
