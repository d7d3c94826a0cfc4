/-! READING in the reference: the name -/
theorem w_Md_readsNameF {G : zG} {X : zX} {n : Nat} {σ : zSt} {σ0 : zSt} {b : Nat → Int} {n0 k : Nat} {f : Int × Nat} {r : (Int × Nat) ⊕ zAb} (hn : 220 ≤ n) (hF : zRft σ0 f σ) (hr : r = .inl f) (hk : k < 12) (hx : ∀ i, i < k → zrl (σ 198 i)) (hw : zrl (σ 189 21))  : ∀ (m : Nat) (i : Nat) (x2 : Int), x2 = (i : Int) → i ≤ k → k < i + m → Go G X m_Md_readsName (3, 0, 0, 0, 0) n SH σ 11 [(0, vr G 189), (1, vi (k : Int)), (2, vi x2)] [] (zV n SH (fun σ' => zRg b n0 σ0 r σ')) := by
  intro m
  induction m with
  | zero => intro i x2 e2 hi hm; exact absurd hm (by omega)
  | succ m ih =>
    intro i x2 e2 hi hm
    subst e2
    have f1 := hF.1
    have f2 := hF.2.1
    refine g_iload_n (i := 2) (by decide +kernel) rfl ?_
    refine g_iload_n (i := 1) (by decide +kernel) rfl ?_
    refine g_icmp_ge (off := 33) (tgt := 46) (by decide +kernel) (by decide) ⟨by omega, by omega⟩ ⟨by omega, by omega⟩ (fun h13 => ?_) (fun h13 => ?_)
    · refine g_aload_n (i := 0) (by decide +kernel) rfl ?_
      refine g_getr f_Md_76 (by decide +kernel) (by omega) rfl rfl ?_
      refine g_iload_n (i := 1) (by decide +kernel) rfl ?_
      refine g_aload_n (i := 0) (by decide +kernel) rfl ?_
      refine g_getl f_Md_219 (by decide +kernel) (by omega) rfl rfl ?_
      refine g_last (j := k) (by decide +kernel) (by omega) rfl rfl (by omega) (by decide) ?_
      refine g_aload_n (i := 0) (by decide +kernel) rfl ?_
      refine g_geti f_Md_230 (by decide +kernel) (by omega) rfl rfl ?_
      refine g_if_ne (off := 7) (tgt := 67) (by decide +kernel) (by decide) ⟨by rw [zs_other (by decide)]; omega, by rw [zs_other (by decide)]; omega⟩ (fun h60 => ?_) (fun h60 => ?_)
      · refine g_retV (by decide +kernel) rfl ⟨by decide, by decide⟩ ?_
        show zRg _ _ _ _ _
        rw [hr]
        exact hF.oth (by decide)
      · rw [zs_other (by decide)] at h60
        exact absurd h60 (by omega)
    · have hxi := hx i (by omega)
      refine g_aload_n (i := 0) (by decide +kernel) rfl ?_
      refine g_aload_n (i := 0) (by decide +kernel) rfl ?_
      refine g_getr f_Md_76 (by decide +kernel) (by omega) rfl rfl ?_
      refine g_iload_n (i := 2) (by decide +kernel) rfl ?_
      refine g_lald (j := i) (by decide +kernel) (by omega) rfl rfl (by omega) (by decide) ?_
      refine g_aload_n (i := 0) (by decide +kernel) rfl ?_
      refine g_getl f_Md_219 (by decide +kernel) (by omega) rfl rfl ?_
      refine g_lcmp (by decide +kernel) hxi hw ?_
      refine g_if_eq (off := 7) (tgt := 35) (by decide +kernel) (by decide) zcmp_r (fun h28 => ?_) (fun h28 => ?_)
      · have h28 := zcmp_eq.mp h28
        refine g_iconst (a := 0) (by decide +kernel) ?_
        refine g_iconst (a := 3) (by decide +kernel) ?_
        refine g_cVV (st := _) (c_Md_wants hn ⟨by omega, by omega⟩ (fun y => absurd y (by omega)) ⟨by decide, by decide⟩ (by omega)) k_Md_wants l_Md_243 (by decide +kernel) (by omega) rfl rfl rfl rfl (Nat.le_of_ble_eq_true rfl) (by decide) ⟨by decide, by decide⟩ ?_
        rintro υ hυ
        obtain rfl := (hF.wt hυ).symm
        refine g_iinc (i := 2) (b := 1) (L' := [(0, _), (1, _), (2, _)]) (by decide +kernel) rfl rfl rfl ?_
        refine g_goto (off := -32) (tgt := 11) (by decide +kernel) (by decide) ?_
        exact ih (i + 1) _ (by push_cast; rfl) (by omega) (by omega)
      · have h28 := zcmp_ne.mp h28
        refine g_iconst (a := 1) (by decide +kernel) ?_
        refine g_goto (off := 4) (tgt := 36) (by decide +kernel) (by decide) ?_
        refine g_iconst (a := 3) (by decide +kernel) ?_
        refine g_cVV (st := _) (c_Md_wants hn ⟨by omega, by omega⟩ (fun y => absurd y (by omega)) ⟨by decide, by decide⟩ (by omega)) k_Md_wants l_Md_243 (by decide +kernel) (by omega) rfl rfl rfl rfl (Nat.le_of_ble_eq_true rfl) (by decide) ⟨by decide, by decide⟩ ?_
        rintro υ hυ
        obtain rfl := (hF.wt hυ).symm
        refine g_iinc (i := 2) (b := 1) (L' := [(0, _), (1, _), (2, _)]) (by decide +kernel) rfl rfl rfl ?_
        refine g_goto (off := -32) (tgt := 11) (by decide +kernel) (by decide) ?_
        exact ih (i + 1) _ (by push_cast; rfl) (by omega) (by omega)
theorem w_Md_readsName {G : zG} {X : zX} {n : Nat} {σ : zSt} {b : Nat → Int} {n0 : Nat} {σ0 : zSt} {A : zAb} {k : Nat} (hn : 220 ≤ n) (h0 : zR0 b n0 σ0) (hn0 : n0 ≤ 600) (hR : zRrK b n0 σ0 k A σ) (hq : A.q ≤ n0) (hG : zGood A.D 0) (hk : A.D 0 0 = (k : Int) + 1) (hop : -1 ≤ A.op ∧ A.op < A.D 0 0) (hnm : ∀ i, i < k → (0 < A.nm i ∧ A.nm i < 1099511627776) ∧ 0 ≤ A.sn i ∧ A.sn i < 1099511627776) (h4 : zby (A.D 4 k) = false) (hw : zrl (σ 189 21)) (ht0 : σ 200 k = 0) (hi0 : zisn b n0 A.q)  : ∀ (m : Nat) (i : Nat) (x2 : Int), x2 = (i : Int) → i ≤ k → (∀ j, j < i → A.nm j ≠ zTs b n0 A.q) → k < i + m → Go G X m_Md_readsName (3, 0, 0, 0, 0) n SH σ 11 [(0, vr G 189), (1, vi (k : Int)), (2, vi x2)] [] (zV n SH (fun σ' => zRg b n0 σ0 (zpN b n0 A k) σ')) := by
  intro m
  induction m with
  | zero => intro i x2 e2 hi hno hm; exact absurd hm (by omega)
  | succ m ih =>
    intro i x2 e2 hi hno hm
    subst e2
    have hQ := hR.1
    have h14 := hQ.1
    have ht := hQ.2.1
    have hf := hQ.2.2.2
    have h12 : A.D 0 0 ≤ 12 := hG.1.2.1
    have tr := zTt_r (b := b) (n0 := n0) (q := A.q)
    have sr := zsrt_r (zTt b n0 A.q)
    have e18 := ht.2.1
    have br := zTb_r (b := b) hq
    have q0 : A.q < n0 := (zTt_w hi0.1).1
    have e17 : σ 189 17 = (zTb b n0 A.q : Int) := by rw [ht.2.2.1, if_neg (by omega)]
    have nme : zNme (zTs b n0 A.q) (σ 189 21) := by rw [ht.2.2.2.1 hi0.1]; exact zTs_nme hi0.1 hi0.2.1
    refine g_iload_n (i := 2) (by decide +kernel) rfl ?_
    refine g_iload_n (i := 1) (by decide +kernel) rfl ?_
    refine g_icmp_ge (off := 33) (tgt := 46) (by decide +kernel) (by decide) ⟨by omega, by omega⟩ ⟨by omega, by omega⟩ (fun h13 => ?_) (fun h13 => ?_)
    · refine g_aload_n (i := 0) (by decide +kernel) rfl ?_
      refine g_getr f_Md_76 (by decide +kernel) (by omega) rfl rfl ?_
      refine g_iload_n (i := 1) (by decide +kernel) rfl ?_
      refine g_aload_n (i := 0) (by decide +kernel) rfl ?_
      refine g_getl f_Md_219 (by decide +kernel) (by omega) rfl rfl ?_
      refine g_last (j := k) (by decide +kernel) (by omega) rfl rfl (by omega) (by decide) ?_
      refine g_aload_n (i := 0) (by decide +kernel) rfl ?_
      refine g_geti f_Md_230 (by decide +kernel) (by omega) rfl rfl ?_
      refine g_if_ne (off := 7) (tgt := 67) (by decide +kernel) (by decide) ⟨by rw [zs_other (by decide)]; omega, by rw [zs_other (by decide)]; omega⟩ (fun h60 => ?_) (fun h60 => ?_)
      · refine g_retV (by decide +kernel) rfl ⟨by decide, by decide⟩ ?_
        first
          | (exfalso
             rw [zs_other (by decide)] at h60
             exact h60 h14)
          | (show zRg _ _ _ _ _
             unfold zpN
             rw [if_neg (fun y => y hi0), if_neg (fun ⟨j, j1, j2⟩ => hno j (by omega) j2)]
             have nr := znx_r (b := b) hq
             have sw := zTs_wr hi0.1 hi0.2.1
             have hE := hU.nx hk9
             have eN : zN A.D = k + 1 := by unfold zN; omega
             refine ⟨?_, nr.2, hG, hop, ⟨by show (-1 : Int) ≤ (k : Int); omega, by show (k : Int) < A.D 0 0; omega⟩, fun j hj => ?_, by show 0 < 8192; decide⟩
             · unfold zRr
               rw [show zN (zAm (znx b n0 A.q) A.D (zu A.nm k (zTs b n0 A.q)) (zu A.sn k 0) 0 A.op (k : Int)).D = k + 1 from eN]
               exact hE
             · show (0 < zu A.nm k (zTs b n0 A.q) j ∧ zu A.nm k (zTs b n0 A.q) j < 1099511627776) ∧ 0 ≤ zu A.sn k 0 j ∧ zu A.sn k 0 j < 1099511627776
               have hj2 : j < (A.D 0 0).toNat := hj
               by_cases e : j = k
               · subst e; rw [zu_eq, zu_eq]; omega
               · rw [zu_ne e, zu_ne e]; exact hnm j (by omega))
      · refine g_aload_n (i := 0) (by decide +kernel) rfl ?_
        obtain ⟨υ, eυ⟩ : ∃ υ, υ = zs σ 198 k (σ 189 21) := ⟨_, rfl⟩
        refine g_eq (σ' := υ) ?_ eυ.symm rfl rfl
        have u189 : υ 189 = σ 189 := by rw [eυ]; exact zs_other (by decide)
        have hU : zRrK b n0 σ0 (k + 1) (zAm A.q A.D (zu A.nm k (zTs b n0 A.q)) (zu A.sn k 0) 0 A.op (k : Int)) υ := by
          rw [eυ]
          refine ⟨hQ.oth (by decide), ⟨fun i hi => ?_, fun i hi hb => ?_⟩, fun _ => ?_, ?_⟩
          · show zNme (zu A.nm k (zTs b n0 A.q) i) _
            by_cases e : i = k
            · rw [e, zu_eq, zs_eq]; exact nme
            · rw [zu_ne e, zs_ne (by omega)]; exact hR.2.1.1 i (by omega)
          · show zNme (zu A.sn k 0 i) _
            have ne : i ≠ k := fun e => by
              rw [e] at hb
              have hb2 : zby (A.D 4 k) = true := hb
              rw [h4] at hb2
              exact absurd hb2 (by decide)
            rw [zu_ne ne, zs_other (by decide)]
            exact hR.2.1.2 i hi hb
          · rw [zs_other (by decide)]
            show σ 200 (k : Int).toNat * 8 = ((0 : Nat) : Int)
            rw [Int.toNat_natCast, ht0]; rfl
          · rw [zs_other (by decide)]; exact hR.2.2.2
        have uf : zFrM σ0 υ := hU.1.2.2.2
        refine g_cVV (st := _) (c_Md_reads hn (h0.bm uf) (h0.end uf) hn0 br.2 (by rw [u189]; exact e17)) k_Md_reads l_Md_247 (by decide +kernel) (by omega) rfl rfl rfl rfl (Nat.le_of_ble_eq_true rfl) (by decide) ⟨by decide, by decide⟩ ?_
        rintro υ9 hk9
        refine g_retV (by decide +kernel) rfl ⟨by decide, by decide⟩ ?_
        first
          | (exfalso
             rw [zs_other (by decide)] at h60
             exact h60 h14)
          | (show zRg _ _ _ _ _
             unfold zpN
             rw [if_neg (fun y => y hi0), if_neg (fun ⟨j, j1, j2⟩ => hno j (by omega) j2)]
             have nr := znx_r (b := b) hq
             have sw := zTs_wr hi0.1 hi0.2.1
             have hE := hU.nx hk9
             have eN : zN A.D = k + 1 := by unfold zN; omega
             refine ⟨?_, nr.2, hG, hop, ⟨by show (-1 : Int) ≤ (k : Int); omega, by show (k : Int) < A.D 0 0; omega⟩, fun j hj => ?_, by show 0 < 8192; decide⟩
             · unfold zRr
               rw [show zN (zAm (znx b n0 A.q) A.D (zu A.nm k (zTs b n0 A.q)) (zu A.sn k 0) 0 A.op (k : Int)).D = k + 1 from eN]
               exact hE
             · show (0 < zu A.nm k (zTs b n0 A.q) j ∧ zu A.nm k (zTs b n0 A.q) j < 1099511627776) ∧ 0 ≤ zu A.sn k 0 j ∧ zu A.sn k 0 j < 1099511627776
               have hj2 : j < (A.D 0 0).toNat := hj
               by_cases e : j = k
               · subst e; rw [zu_eq, zu_eq]; omega
               · rw [zu_ne e, zu_ne e]; exact hnm j (by omega))
    · have hxi := hR.2.1.1 i (by omega)
      have hxr := hxi.r
      refine g_aload_n (i := 0) (by decide +kernel) rfl ?_
      refine g_aload_n (i := 0) (by decide +kernel) rfl ?_
      refine g_getr f_Md_76 (by decide +kernel) (by omega) rfl rfl ?_
      refine g_iload_n (i := 2) (by decide +kernel) rfl ?_
      refine g_lald (j := i) (by decide +kernel) (by omega) rfl rfl (by omega) (by decide) ?_
      refine g_aload_n (i := 0) (by decide +kernel) rfl ?_
      refine g_getl f_Md_219 (by decide +kernel) (by omega) rfl rfl ?_
      refine g_lcmp (by decide +kernel) ⟨by omega, by omega⟩ hw ?_
      refine g_if_eq (off := 7) (tgt := 35) (by decide +kernel) (by decide) zcmp_r (fun h28 => ?_) (fun h28 => ?_)
      · have h28 := zcmp_eq.mp h28
        have heq : A.nm i = zTs b n0 A.q := (hxi.iff nme).mpr h28
        refine g_iconst (a := 0) (by decide +kernel) ?_
        refine g_iconst (a := 3) (by decide +kernel) ?_
        refine g_cVV (st := _) (c_Md_wants hn ⟨by omega, by omega⟩ (fun _ => ⟨by omega, by omega⟩) ⟨by decide, by decide⟩ (by decide)) k_Md_wants l_Md_243 (by decide +kernel) (by omega) rfl rfl rfl rfl (Nat.le_of_ble_eq_true rfl) (by decide) ⟨by decide, by decide⟩ ?_
        rintro υ hυ
        have hS : (A.nm i ≠ zTs b n0 A.q ∧ υ = σ) ∨ (A.nm i = zTs b n0 A.q ∧ zRft σ0 (3, A.q) υ ∧ υ = zfl σ 3) := by
          first
            | exact Or.inl ⟨hne, by rw [hυ, if_neg (by decide)]⟩
            | (have e3 : υ = zfl σ 3 := by rw [hυ, if_pos rfl]
               refine Or.inr ⟨heq, ?_, e3⟩
               rw [e3]
               have g := hQ.fl (k := 3) (by decide)
               rw [if_neg (by decide)] at g
               exact g)
        refine g_iinc (i := 2) (b := 1) (L' := [(0, _), (1, _), (2, _)]) (by decide +kernel) rfl rfl rfl ?_
        refine g_goto (off := -32) (tgt := 11) (by decide +kernel) (by decide) ?_
        rcases hS with ⟨e, e2⟩ | ⟨e, e2, e3⟩
        · obtain rfl := e2.symm
          refine ih (i + 1) _ (by push_cast; rfl) (by omega) (fun j hj => ?_) (by omega)
          rcases Nat.lt_or_ge j i with y | y
          · exact hno j y
          · rw [show j = i by omega]; exact e
        · have er : zpN b n0 A k = .inl (3, A.q) := by
            unfold zpN
            rw [if_neg (fun y => y hi0), if_pos ⟨i, by omega, e⟩]
          refine w_Md_readsNameF hn e2 er (by omega) (fun j hj => ?_) ?_ (k + 1) (i + 1) _ (by push_cast; rfl) (by omega) (by omega)
          · rw [e3, zfl_o (Or.inl (by decide))]
            have g := (hR.2.1.1 j hj).r
            exact ⟨by omega, by omega⟩
          · rw [e3, zfl_o (by decide)]; exact hw
      · have h28 := zcmp_ne.mp h28
        have hne : A.nm i ≠ zTs b n0 A.q := fun y => h28 ((hxi.iff nme).mp y)
        refine g_iconst (a := 1) (by decide +kernel) ?_
        refine g_goto (off := 4) (tgt := 36) (by decide +kernel) (by decide) ?_
        refine g_iconst (a := 3) (by decide +kernel) ?_
        refine g_cVV (st := _) (c_Md_wants hn ⟨by omega, by omega⟩ (fun _ => ⟨by omega, by omega⟩) ⟨by decide, by decide⟩ (by decide)) k_Md_wants l_Md_243 (by decide +kernel) (by omega) rfl rfl rfl rfl (Nat.le_of_ble_eq_true rfl) (by decide) ⟨by decide, by decide⟩ ?_
        rintro υ hυ
        have hS : (A.nm i ≠ zTs b n0 A.q ∧ υ = σ) ∨ (A.nm i = zTs b n0 A.q ∧ zRft σ0 (3, A.q) υ ∧ υ = zfl σ 3) := by
          first
            | exact Or.inl ⟨hne, by rw [hυ, if_neg (by decide)]⟩
            | (have e3 : υ = zfl σ 3 := by rw [hυ, if_pos rfl]
               refine Or.inr ⟨heq, ?_, e3⟩
               rw [e3]
               have g := hQ.fl (k := 3) (by decide)
               rw [if_neg (by decide)] at g
               exact g)
        refine g_iinc (i := 2) (b := 1) (L' := [(0, _), (1, _), (2, _)]) (by decide +kernel) rfl rfl rfl ?_
        refine g_goto (off := -32) (tgt := 11) (by decide +kernel) (by decide) ?_
        rcases hS with ⟨e, e2⟩ | ⟨e, e2, e3⟩
        · obtain rfl := e2.symm
          refine ih (i + 1) _ (by push_cast; rfl) (by omega) (fun j hj => ?_) (by omega)
          rcases Nat.lt_or_ge j i with y | y
          · exact hno j y
          · rw [show j = i by omega]; exact e
        · have er : zpN b n0 A k = .inl (3, A.q) := by
            unfold zpN
            rw [if_neg (fun y => y hi0), if_pos ⟨i, by omega, e⟩]
          refine w_Md_readsNameF hn e2 er (by omega) (fun j hj => ?_) ?_ (k + 1) (i + 1) _ (by push_cast; rfl) (by omega) (by omega)
          · rw [e3, zfl_o (Or.inl (by decide))]
            have g := (hR.2.1.1 j hj).r
            exact ⟨by omega, by omega⟩
          · rw [e3, zfl_o (by decide)]; exact hw
theorem c_Md_readsName {G : zG} {n : Nat} {σ : zSt} {b : Nat → Int} {n0 : Nat} {σ0 : zSt} {A : zAb} {k : Nat} (hn : 220 ≤ n) (h0 : zR0 b n0 σ0) (hn0 : n0 ≤ 600) (hR : zRrK b n0 σ0 k A σ) (hq : A.q ≤ n0) (hG : zGood A.D 0) (hk : A.D 0 0 = (k : Int) + 1) (hop : -1 ≤ A.op ∧ A.op < A.D 0 0) (hnm : ∀ i, i < k → (0 < A.nm i ∧ A.nm i < 1099511627776) ∧ 0 ≤ A.sn i ∧ A.sn i < 1099511627776) (h4 : zby (A.D 4 k) = false) (hw : zrl (σ 189 21)) (ht0 : σ 200 k = 0)  : Gm G y_Md_readsName m_Md_readsName 3 0 0 [vr G 189, vi (k : Int)] n SH σ (zV n SH (fun σ' => zRg b n0 σ0 (zpN b n0 A k) σ')) := by
  refine g_enter (L := [(0, _), (1, _)]) (by decide) rfl rfl rfl (Nat.le_of_ble_eq_true rfl) (fun X => ?_)
  have hQ := hR.1
  have h14 := hQ.1
  have ht := hQ.2.1
  have hf := hQ.2.2.2
  have h12 : A.D 0 0 ≤ 12 := hG.1.2.1
  have tr := zTt_r (b := b) (n0 := n0) (q := A.q)
  have sr := zsrt_r (zTt b n0 A.q)
  have e18 := ht.2.1
  have br := zTb_r (b := b) hq
  refine g_aload_n (i := 0) (by decide +kernel) rfl ?_
  refine g_aload_n (i := 0) (by decide +kernel) rfl ?_
  refine g_cVI (st := _) (c_Md_isName hn h0 hn0 hQ hq) k_Md_isName l_Md_259 (by decide +kernel) (by omega) rfl rfl rfl rfl (Nat.le_of_ble_eq_true rfl) (by decide) ⟨by decide, by decide⟩ ?_
  rintro a9 σ9 ⟨ha9, hσ9⟩
  obtain rfl := hσ9.symm
  refine g_iconst (a := 2) (by decide +kernel) ?_
  refine g_cVV (st := _) (c_Md_wants hn ⟨by omega, by omega⟩ (fun _ => ⟨by omega, by omega⟩) ⟨by decide, by decide⟩ (by omega)) k_Md_wants l_Md_243 (by decide +kernel) (by omega) rfl rfl rfl rfl (Nat.le_of_ble_eq_true rfl) (by decide) ⟨by decide, by decide⟩ ?_
  rintro υ hυ
  refine g_iconst (a := 0) (by decide +kernel) ?_
  refine g_istore_n (i := 2) (L' := [(0, _), (1, _), (2, _)]) (by decide +kernel) rfl rfl ?_
  rcases ha9 with ⟨hi0, e9⟩ | ⟨hi0, e9⟩
  · obtain rfl : σ = υ := by rw [hυ, if_neg (by omega)]
    exact w_Md_readsName hn h0 hn0 hR hq hG hk hop hnm h4 hw ht0 hi0 (k + 1) 0 _ rfl (by omega) (fun j hj => absurd hj (by omega)) (by omega)
  · have e3 : υ = zfl σ 2 := by rw [hυ, if_pos e9]
    have er : zpN b n0 A k = .inl (zcs b n0 A.q, A.q) := by
      unfold zpN
      rw [if_pos hi0]
    have hF : zRft σ0 (zcs b n0 A.q, A.q) υ := by
      rw [e3]
      have g := hQ.fl (k := 2) (by decide)
      rw [if_pos rfl] at g
      exact g
    refine w_Md_readsNameF hn hF er (by omega) (fun j hj => ?_) ?_ (k + 1) 0 _ rfl (by omega) (by omega)
    · rw [e3, zfl_o (Or.inl (by decide))]
      have g := (hR.2.1.1 j hj).r
      exact ⟨by omega, by omega⟩
    · rw [e3, zfl_o (by decide)]; exact hw
