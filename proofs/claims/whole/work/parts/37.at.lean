theorem zOn.sett {σ : zSt} (h : zOn σ) : 0 ≤ σ 33 7 ∧ σ 33 7 ≤ 2000000000 := by
  obtain ⟨hg, hV, ⟨l1, l2, l3, l4⟩, hK, hs, ho, hF, hM, h7, hN⟩ := h
  have hl : 0 ≤ σ 21 5 ∧ σ 21 5 ≤ 2000000000 := by
    rw [l4]
    split
    · omega
    · next z =>
      have c := hg.1
      have k0 := (hK 0 (by omega)).2.2.2.1
      have u0 : 0 ≤ σ 7 0 ∧ σ 7 0 ≤ 999 := (hg.2.1 0 (by decide)).2.2.2.2.2
      omega
  have := zsett_in' hl.1 (σ 1 8).toNat (fun q hq => ho.tm hg q hq)
  rw [h7]; omega
theorem zOn.pre {σ : zSt} (h : zOn σ) {t : Int} (ht : 0 ≤ t ∧ t ≤ 1999) : zPreF σ 34 t := by
  obtain ⟨hg, hV, ⟨l1, l2, l3, l4⟩, hK, hs, ho, hF, hM, h7, hN⟩ := h
  exact ⟨⟨hg, hM.1, hM.2⟩, ho.in hg, hK, ⟨by decide, Or.inl (by decide)⟩, fun i hi => Or.inl (by omega), ht, hs⟩
theorem zOn.fill {σ σ1 : zSt} (h : zOn σ) {t : Int} (hf : zFillP σ σ1 34 t) : zStage σ1 := by
  obtain ⟨f1, f2, f3, f4⟩ := hf
  obtain ⟨hg, hV, ⟨l1, l2, l3, l4⟩, hK, hs, ho, hF, hM, h7, hN⟩ := h
  have lo : ∀ a, a < 34 → σ1 a = σ a := fun a ha => f1 a (by omega)
  have E : zEqv (zSv σ 1) (zSv σ1 1) := zEqv.of (fun r hr => lo (1 + r) (by omega))
  obtain ⟨⟨d, r, hv⟩, hV2⟩ := hV
  refine ⟨⟨?_, ?_, ?_, ?_⟩, fun k hk => ?_, ?_, ?_, ?_, ⟨f3, fun j hj => ?_⟩, ?_, Or.inr f4⟩
  · rw [lo 22 (by decide), lo 23 (by decide)]; exact E.lay hv l1
  · intro k hk
    rw [lo 1 (by decide)] at hk
    rw [lo 23 (by decide), lo 24 (by decide), lo 25 (by decide), lo 26 (by decide), E.be hv hk, E.bs hv 12 k hk, E.ok hv hk]
    exact l2 k hk
  · rw [lo 26 (by decide)]; exact l3
  · rw [lo 21 (by decide), lo 1 (by decide), lo 7 (by decide), lo 23 (by decide)]; exact l4
  · rw [lo 1 (by decide)] at hk
    exact zKk_eq lo (hK k hk)
  · unfold zStood at *
    rw [lo 33 (by decide), lo 2 (by decide), lo 1 (by decide), f1 44 (by decide)]
    exact ⟨hs.1, E.stand hs.2⟩
  · unfold zOrd
    rw [lo 1 (by decide), lo 10 (by decide), f1 43 (by decide)]; exact ho
  · rw [lo 1 (by decide), lo 10 (by decide), f1 43 (by decide)]
    intro i hi
    have o := ho.in hg i hi
    have hq := hF i hi
    rw [f1 _ (by omega)]
    exact ⟨hq.1, zKp_filled ⟨fun a ha => lo a (by omega), by rw [lo 33 (by decide)], f1 43 (by decide), f1 44 (by decide), fun r hr => f1 _ (by omega), fun i2 _ _ r r1 r2 => f1 _ (by omega)⟩ hq.2⟩
  · have q : ∀ r, r < 8 → σ1 (45 + 8 * j + r) = σ (45 + 8 * j + r) := fun r hr => f1 _ (by omega)
    have := hM.2 j hj
    unfold zMr at *
    rw [q 1 (by decide), q 2 (by decide), q 3 (by decide), q 4 (by decide), q 5 (by decide), q 6 (by decide), q 7 (by decide), show σ1 (45 + 8 * j) = σ (45 + 8 * j) from q 0 (by decide)]
    exact this
  · rw [lo 33 (by decide), lo 1 (by decide), lo 10 (by decide), lo 21 (by decide), f1 43 (by decide)]; exact h7
theorem zAtP.on {σ σ' : zSt} {t : Int} (h : zAtP σ σ' t) (ho : zOn σ) : zOn σ' := by
  have E : zEqv (zSv σ 1) (zSv σ' 1) := zEqv.of (fun r hr => h.1 (1 + r) (by omega))
  exact ⟨zGood_eq (fun r hr => h.1 _ (by omega)) ho.1, ho.2.1.eqv E, h.2.1⟩
theorem c_Sg_at {G : zG} {n : Nat} {σ : zSt} {t : Int} (hn : 189 ≤ n) (ho : zOn σ) (ht : 0 ≤ t ∧ t ≤ 1999) : Gm G y_Sg_at m_Sg_at 4 0 0 [vr G 33, vi t] n SH σ (zO G n SH (fun q σ' => q = 34 ∧ zAtP σ σ' t)) := by
  refine g_enter (L := [(0, _), (1, _)]) (by decide) rfl rfl rfl (Nat.le_of_ble_eq_true rfl) (fun X => ?_)
  have hs := ho.sett
  have r0 : zr (σ 34 0) := ho.2.2.2.2.2.2.2.1.1.1
  refine g_iload_n (i := 1) (by decide +kernel) rfl ?_
  refine g_aload_n (i := 0) (by decide +kernel) rfl ?_
  refine g_geti f_Sg_56 (by decide +kernel) (by omega) rfl rfl ?_
  refine g_min ma_min_Sg_77 (by decide +kernel) ⟨by omega, by omega⟩ ⟨by omega, by omega⟩ (Nat.le_of_ble_eq_true rfl) (by decide) ⟨by decide, by decide⟩ ?_
  refine g_istore_n (i := 2) (L' := [(0, _), (1, _), (2, _)]) (by decide +kernel) rfl rfl ?_
  refine g_aload_n (i := 0) (by decide +kernel) rfl ?_
  refine g_getr f_Sg_12 (by decide +kernel) (by omega) rfl rfl ?_
  refine g_geti f_Sg_43 (by decide +kernel) (by omega) rfl rfl ?_
  refine g_iload_n (i := 2) (by decide +kernel) rfl ?_
  refine g_icmp_eq (off := 12) (tgt := 29) (by decide +kernel) (by decide) r0 ⟨by omega, by omega⟩ (fun h17 => ?_) (fun h17 => ?_)
  · refine g_aload_n (i := 0) (by decide +kernel) rfl ?_
    refine g_getr f_Sg_12 (by decide +kernel) (by omega) rfl rfl ?_
    refine g_retO (by decide +kernel) rfl ⟨by decide, by decide⟩ ?_
    first
      | (have hz : σ 34 0 = min t (σ 33 7) := h17
         refine ⟨rfl, zAtP_mk ho (fun _ _ => rfl) ho.2.2 ht hz ?_⟩
         rcases ho.2.2.2.2.2.2.2.2.2 with z | z
         · omega
         · exact z)
      | exact ⟨rfl, zAtP_mk ho (fun a ha => hf.1 a (by omega)) (ho.fill hf) ht hf.2.1 hf.2.2.2⟩
  · refine g_aload_n (i := 0) (by decide +kernel) rfl ?_
    refine g_aload_n (i := 0) (by decide +kernel) rfl ?_
    refine g_getr f_Sg_12 (by decide +kernel) (by omega) rfl rfl ?_
    refine g_iload_n (i := 2) (by decide +kernel) rfl ?_
    refine g_cVV (st := []) (c_Sg_fill hn mo_34 (ho.pre ⟨by omega, by omega⟩)) k_Sg_fill l_Sg_67 (by decide +kernel) (by omega) rfl rfl rfl rfl (Nat.le_of_ble_eq_true rfl) (by decide) ⟨by decide, by decide⟩ ?_
    rintro σ1 hf
    refine g_aload_n (i := 0) (by decide +kernel) rfl ?_
    refine g_getr f_Sg_12 (by decide +kernel) (by omega) rfl rfl ?_
    refine g_retO (by decide +kernel) rfl ⟨by decide, by decide⟩ ?_
    first
      | (have hz : σ 34 0 = min t (σ 33 7) := h17
         refine ⟨rfl, zAtP_mk ho (fun _ _ => rfl) ho.2.2 ht hz ?_⟩
         rcases ho.2.2.2.2.2.2.2.2.2 with z | z
         · omega
         · exact z)
      | exact ⟨rfl, zAtP_mk ho (fun a ha => hf.1 a (by omega)) (ho.fill hf) ht hf.2.1 hf.2.2.2⟩
/-- the brightest of the first i that stand: (share, clip) -/
def ztp (sh sd : Nat → Int) : Nat → Int × Int
  | 0 => (0, -1)
  | i + 1 => if (ztp sh sd i).1 < sh (sd i).toNat then (sh (sd i).toNat, sd i) else ztp sh sd i
theorem ztp_s (sh sd : Nat → Int) (i : Nat) : ztp sh sd (i + 1) = if (ztp sh sd i).1 < sh (sd i).toNat then (sh (sd i).toNat, sd i) else ztp sh sd i := rfl
theorem ztp_congr {sh sh' sd sd' : Nat → Int} : ∀ i, (∀ j, j < i → sd' j = sd j ∧ sh' (sd j).toNat = sh (sd j).toNat) → ztp sh' sd' i = ztp sh sd i
  | 0, _ => rfl
  | i + 1, h => by rw [ztp_s, ztp_s, ztp_congr i (fun j hj => h j (by omega)), (h i (by omega)).1, (h i (by omega)).2]
/-- the top of S at t -/
def ztopP (S : zSt) (t a : Int) : Prop := ∃ sd, zStand S sd (zlvs S) ∧ a = (ztp (zv S t 7) sd (zlvs S)).2
theorem ztopP_uniq {S : zSt} {t a b : Int} (h : ztopP S t a) (g : ztopP S t b) : a = b := by
  obtain ⟨sd, h1, h2⟩ := h
  obtain ⟨sd', g1, g2⟩ := g
  rw [h2, g2, ztp_congr (sh := zv S t 7) (sd := sd') _ (fun j hj => ⟨zStand_uniq h1 g1 j hj, rfl⟩)]
theorem w_Sg_topAt {G : zG} {X : zX} {n : Nat} {σ τ : zSt} {t : Int} (hn : 189 ≤ n) (hA : zAtP σ τ t) (hO : zOn σ) : ∀ (m : Nat) (i : Nat) (x3 x4 x5 : Int), x5 = (i : Int) → (x3, x4) = ztp (τ 41) (τ 44) i → (0 ≤ x3 ∧ x3 ≤ 100) → i ≤ (τ 33 6).toNat → (τ 33 6).toNat < i + m → Go G X m_Sg_topAt (5, 0, 0, 0, 0) n SH τ 14 [(0, vr G 33), (1, vi t), (2, vr G 34), (3, vi x3), (4, vi x4), (5, vi x5)] [] (zI n SH (fun a σ' => zAtP σ σ' t ∧ ztopP (zSv σ 1) t a)) := by
  intro m
  induction m with
  | zero => intro i x3 x4 x5 e5 e3 hx hi hm; exact absurd hm (by omega)
  | succ m ih =>
    intro i x3 x4 x5 e5 e3 hx hi hm
    have hT := hA.on hO
    have sN := hT.2.2.2.2.1
    have zc := zcnt_le (fun j => decide (τ 2 j = 0)) (τ 1 0).toNat
    have hc : 0 ≤ τ 1 0 ∧ τ 1 0 ≤ 12 := ⟨hT.1.1.1, hT.1.1.2.1⟩
    have s6 : τ 33 6 = (zcnt (fun j => decide (τ 2 j = 0)) (τ 1 0).toNat : Int) := sN.1
    subst e5
    refine g_iload (i := 5) (by decide +kernel) rfl ?_
    refine g_aload_n (i := 0) (by decide +kernel) rfl ?_
    refine g_geti f_Sg_87 (by decide +kernel) (by omega) rfl rfl ?_
    refine g_icmp_ge (off := 47) (tgt := 67) (by decide +kernel) (by decide) ⟨by omega, by omega⟩ ⟨by omega, by omega⟩ (fun h20 => ?_) (fun h20 => ?_)
    · refine g_iload (i := 4) (by decide +kernel) rfl ?_
      refine g_retI (by decide +kernel) rfl (Or.inl rfl) ⟨by decide, by decide⟩ ?_
      refine ⟨hA, σ 44, hO.2.2.2.2.1.2, ?_⟩
      have e2 : τ 2 = σ 2 := hA.1 2 (by decide)
      have e1 : τ 1 = σ 1 := hA.1 1 (by decide)
      have e44 : τ 44 = σ 44 := hA.1 44 (by decide)
      have eN : (τ 33 6).toNat = zlvs (zSv σ 1) := by rw [s6, Int.toNat_natCast, e2, e1]; rfl
      rw [show i = zlvs (zSv σ 1) by omega] at e3
      have h2 := congrArg Prod.snd e3
      rw [ztp_congr (sh := zv (zSv σ 1) t 7) (sd := σ 44) _ (fun j hj => ⟨by rw [e44], ?_⟩)] at h2
      · exact h2
      · have st := hO.2.2.2.2.1.2 j hj
        exact hA.2.2.2.1 _ st.2.1 st.2.2.1
    · have st := sN.2 i (by omega)
      have s1 : (τ 44 i).toNat < (τ 1 0).toNat := st.2.1
      have sh := (hT.2.2.2.2.2.2.2.1.1.2 (τ 44 i).toNat (by omega)).2.2.2.2.2.2
      have sh : 0 ≤ τ 41 (τ 44 i).toNat ∧ τ 41 (τ 44 i).toNat ≤ 100 := sh
      have hst : 0 ≤ τ 44 i := st.1
      refine g_aload_n (i := 2) (by decide +kernel) rfl ?_
      refine g_getr f_Sg_90 (by decide +kernel) (by omega) rfl rfl ?_
      refine g_aload_n (i := 0) (by decide +kernel) rfl ?_
      refine g_getr f_Sg_26 (by decide +kernel) (by omega) rfl rfl ?_
      refine g_iload (i := 5) (by decide +kernel) rfl ?_
      refine g_iald (j := i) (by decide +kernel) (by omega) rfl rfl (by omega) (by decide) ?_
      refine g_iald (j := (τ 44 i).toNat) (by decide +kernel) (by omega) rfl (by omega) (by omega) (by decide) ?_
      refine g_iload_n (i := 3) (by decide +kernel) rfl ?_
      refine g_icmp_le (off := 25) (tgt := 61) (by decide +kernel) (by decide) ⟨by omega, by omega⟩ ⟨by omega, by omega⟩ (fun h36 => ?_) (fun h36 => ?_)
      · have e3 : (x3, x4) = ztp (τ 41) (τ 44) (i + 1) := by rw [ztp_s, ← e3, if_neg (show ¬ x3 < τ 41 (τ 44 i).toNat by omega)]
        refine g_iinc (i := 5) (b := 1) (L' := [(0, _), (1, _), (2, _), (3, _), (4, _), (5, _)]) (by decide +kernel) rfl rfl rfl ?_
        refine g_goto (off := -50) (tgt := 14) (by decide +kernel) (by decide) ?_
        exact ih (i + 1) _ _ _ (by push_cast; rfl) e3 hx (by omega) (by omega)
      · have e3 : (τ 41 (τ 44 i).toNat, τ 44 i) = ztp (τ 41) (τ 44) (i + 1) := by rw [ztp_s, ← e3, if_pos h36]
        have hx := sh
        refine g_aload_n (i := 2) (by decide +kernel) rfl ?_
        refine g_getr f_Sg_90 (by decide +kernel) (by omega) rfl rfl ?_
        refine g_aload_n (i := 0) (by decide +kernel) rfl ?_
        refine g_getr f_Sg_26 (by decide +kernel) (by omega) rfl rfl ?_
        refine g_iload (i := 5) (by decide +kernel) rfl ?_
        refine g_iald (j := i) (by decide +kernel) (by omega) rfl rfl (by omega) (by decide) ?_
        refine g_iald (j := (τ 44 i).toNat) (by decide +kernel) (by omega) rfl (by omega) (by omega) (by decide) ?_
        refine g_istore_n (i := 3) (L' := [(0, _), (1, _), (2, _), (3, _), (4, _), (5, _)]) (by decide +kernel) rfl rfl ?_
        refine g_aload_n (i := 0) (by decide +kernel) rfl ?_
        refine g_getr f_Sg_26 (by decide +kernel) (by omega) rfl rfl ?_
        refine g_iload (i := 5) (by decide +kernel) rfl ?_
        refine g_iald (j := i) (by decide +kernel) (by omega) rfl rfl (by omega) (by decide) ?_
        refine g_istore (i := 4) (L' := [(0, _), (1, _), (2, _), (3, _), (4, _), (5, _)]) (by decide +kernel) rfl rfl ?_
        refine g_iinc (i := 5) (b := 1) (L' := [(0, _), (1, _), (2, _), (3, _), (4, _), (5, _)]) (by decide +kernel) rfl rfl rfl ?_
        refine g_goto (off := -50) (tgt := 14) (by decide +kernel) (by decide) ?_
        exact ih (i + 1) _ _ _ (by push_cast; rfl) e3 hx (by omega) (by omega)
theorem c_Sg_topAt {G : zG} {n : Nat} {σ : zSt} {t : Int} (hn : 189 ≤ n) (ho : zOn σ) (ht : 0 ≤ t ∧ t ≤ 1999) : Gm G y_Sg_topAt m_Sg_topAt 5 0 0 [vr G 33, vi t] n SH σ (zI n SH (fun a σ' => zAtP σ σ' t ∧ ztopP (zSv σ 1) t a)) := by
  refine g_enter (L := [(0, _), (1, _)]) (by decide) rfl rfl rfl (Nat.le_of_ble_eq_true rfl) (fun X => ?_)
  refine g_aload_n (i := 0) (by decide +kernel) rfl ?_
  refine g_iload_n (i := 1) (by decide +kernel) rfl ?_
  refine g_cVO (st := []) (c_Sg_at hn ho ht) k_Sg_at l_Sg_83 (by decide +kernel) (by omega) rfl rfl rfl rfl (Nat.le_of_ble_eq_true rfl) (by decide) ⟨by decide, by decide⟩ ?_
  rintro q τ ⟨eq, hA⟩
  subst eq
  refine g_astore_n (i := 2) (L' := [(0, _), (1, _), (2, _)]) (by decide +kernel) rfl rfl ?_
  refine g_iconst (a := 0) (by decide +kernel) ?_
  refine g_istore_n (i := 3) (L' := [(0, _), (1, _), (2, _), (3, _)]) (by decide +kernel) rfl rfl ?_
  refine g_iconst (a := -1) (by decide +kernel) ?_
  refine g_istore (i := 4) (L' := [(0, _), (1, _), (2, _), (3, _), (4, _)]) (by decide +kernel) rfl rfl ?_
  refine g_iconst (a := 0) (by decide +kernel) ?_
  refine g_istore (i := 5) (L' := [(0, _), (1, _), (2, _), (3, _), (4, _), (5, _)]) (by decide +kernel) rfl rfl ?_
  exact w_Sg_topAt hn hA ho 13 0 _ _ _ rfl rfl (by omega) (by omega) (by have hT := hA.on ho; have s6 : τ 33 6 = (zcnt (fun j => decide (τ 2 j = 0)) (τ 1 0).toNat : Int) := hT.2.2.2.2.1.1; have zc := zcnt_le (fun j => decide (τ 2 j = 0)) (τ 1 0).toNat; have := hT.1.1; omega)
