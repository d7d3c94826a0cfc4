/-! FIT AND SLACK of the reference -/
/-- one number of the Show is tried: the rest stays -/
def zTrM (τ ψ : zSt) (at0 : Nat) : Prop := (∀ a, (a < 190 ∨ 195 < a) → ψ a = τ a) ∧ ∀ j, j ≠ at0 → ψ 190 j = τ 190 j
theorem zTrM.put {τ ψ : zSt} {at0 : Nat} {v : Int} (h : zTrM τ ψ at0) : zTrM τ (zs ψ 190 at0 v) at0 := ⟨fun a ha => by rw [zs_other (by omega)]; exact h.1 a ha, fun j hj => by rw [zs_ne (fun y => hj y.2)]; exact h.2 j hj⟩
theorem zTrM.lay {τ ψ ω : zSt} {at0 : Nat} (h : zTrM τ ψ at0) (g : zMf1 ψ ω) : zTrM τ ω at0 := ⟨fun a ha => by rw [g a (by omega)]; exact h.1 a ha, fun j hj => by rw [g 190 (by omega)]; exact h.2 j hj⟩
theorem zTrM.back {σ τ ψ : zSt} {at0 : Nat} (f : zMF σ τ) (h : zTrM τ ψ at0) : zMF σ (zs ψ 190 at0 (τ 190 at0)) := by
  refine f.of (fun a ha => ?_)
  by_cases z : a = 190
  · subst z
    funext j
    by_cases y : j = at0
    · rw [y, zs_eq]
    · rw [zs_ne (fun q => y q.2)]; exact h.2 j y
  · rw [zs_other z]; exact h.1 a (by omega)
theorem zTrM.eqv {τ ψ S : zSt} {r j : Nat} {v : Int} (hN : zN S ≤ 12 ∧ (S 0 8).toNat ≤ 6) (E : zEqv S (zMw (τ 190) 0)) (h1 : 1 ≤ r) (h2 : r ≤ 9) (hj : j < zmW r) (h : zTrM τ ψ (zmO r + j)) (e : ψ 190 (zmO r + j) = v) : zEqv (zs S r j v) (zMw (ψ 190) 0) := by
  have E2 := zEqv_put (v := v) hN E h1 h2 hj
  have q : ψ 190 = zu (τ 190) (0 + zmO r + j) v := by
    funext i
    rw [Nat.zero_add]
    by_cases z : i = zmO r + j
    · rw [z, zu_eq]; exact e
    · rw [zu_ne z]; exact h.2 i z
  rw [q]; exact E2
theorem w_Md_fit {G : zG} {X : zX} {n : Nat} {σ : zSt} {τ : zSt} {k q M : Nat} {l : Int} {S : zSt} (hn : 220 ≤ n) (hF : zFine S) (hS : zMc σ S) (kN : k < zN S) (hq : q < 3) (hM : (M : Int) = zTab 1 q) (hl : 0 ≤ l ∧ l ≤ 1999) (f0 : zMF σ τ) (s0 : τ 189 2 = 0) (hT : zMc τ S)  : ∀ (m : Nat) (i : Nat) (x7 x8 : Int) (ψ : zSt), x8 = (i : Int) → zTrM τ ψ (38 + 9 * k + q) → ((x7 = -1 ∧ zfit S k q l = zfr (fun n => decide (zfm S k q n = l)) (M + 1 - i) i) ∨ (0 ≤ x7 ∧ x7 = zfit S k q l)) → (-1 ≤ x7 ∧ x7 ≤ 999) → 1 ≤ i → i ≤ M + 1 → M + 1 < i + m → Go G X m_Md_fit (5, 0, 0, 0, 0) n SH ψ 99 [(0, vr G 189), (1, vi (k : Int)), (2, vi (q : Int)), (3, vi l), (4, vi ((38 + 9 * k + q : Nat) : Int)), (5, vi (τ 190 (38 + 9 * k + q))), (6, vi (M : Int)), (7, vi x7), (8, vi x8)] [] (zI n SH (fun a σ' => zRM σ σ' a (if zfit S k q l = -1 then 8 else 0) (zfit S k q l))) := by
  intro m
  induction m with
  | zero => intro i x7 x8 ψ e8 ht h7 r7 h1 hi hm; exact absurd hm (by omega)
  | succ m ih =>
    intro i x7 x8 ψ e8 ht h7 r7 h1 hi hm
    subst e8
    have hN := hS.N
    have hz : zN S = (S 0 0).toNat := rfl
    have tb := zTab_r (q := q) (by omega)
    refine g_iload (i := 8) (by decide +kernel) rfl ?_
    refine g_iload (i := 6) (by decide +kernel) rfl ?_
    refine g_icmp_gt (off := 41) (tgt := 144) (by decide +kernel) (by decide) ⟨by omega, by omega⟩ ⟨by omega, by omega⟩ (fun h103 => ?_) (fun h103 => ?_)
    · refine g_aload_n (i := 0) (by decide +kernel) rfl ?_
      refine g_getr f_Md_7 (by decide +kernel) (by omega) rfl rfl ?_
      refine g_iload (i := 4) (by decide +kernel) rfl ?_
      refine g_iload (i := 5) (by decide +kernel) rfl ?_
      refine g_iast (j := (38 + 9 * k + q)) (by decide +kernel) (by omega) rfl rfl (by omega) (by decide) ?_
      refine g_iload (i := 7) (by decide +kernel) rfl ?_
      refine g_if_ge (off := 12) (tgt := 167) (by decide +kernel) (by decide) ⟨by omega, by omega⟩ (fun h155 => ?_) (fun h155 => ?_)
      · refine g_iload (i := 7) (by decide +kernel) rfl ?_
        refine g_retI (by decide +kernel) rfl (Or.inl rfl) ⟨by decide, by decide⟩ ?_
        have fb := zTrM.back f0 ht
        have sb : zs ψ 190 (38 + 9 * k + q) (τ 190 (38 + 9 * k + q)) 189 2 = 0 := by rw [zs_other (by decide), ht.1 189 (by omega)]; exact s0
        first
          | (have hz : x7 < 0 := h155
             have e : zfit S k q l = -1 := by
               rcases h7 with h7 | h7
               · rw [h7.2]
                 have z : i = M + 1 := by omega
                 rw [z, Nat.sub_self]; rfl
               · omega
             exact zRM.ref fb (by rw [if_pos e]) (by decide))
          | (have hz : 0 ≤ x7 := h155
             have e : x7 = zfit S k q l := by
               rcases h7 with h7 | h7
               · omega
               · exact h7.2
             exact zRM.ok fb (by rw [if_neg (by omega)]) sb e)
      · refine g_aload_n (i := 0) (by decide +kernel) rfl ?_
        refine g_bipush (a := 8) (by decide +kernel) (by decide) ?_
        refine g_cVI (st := _) (c_Md_refuse hn) k_Md_refuse l_Md_295 (by decide +kernel) (by omega) rfl rfl rfl rfl (Nat.le_of_ble_eq_true rfl) (by decide) ⟨by decide, by decide⟩ ?_
        rintro a9 σ9 ⟨ea9, hσ9⟩
        obtain rfl := ea9.symm
        subst hσ9
        refine g_goto (off := 5) (tgt := 169) (by decide +kernel) (by decide) ?_
        refine g_retI (by decide +kernel) rfl (Or.inl rfl) ⟨by decide, by decide⟩ ?_
        have fb := zTrM.back f0 ht
        have sb : zs ψ 190 (38 + 9 * k + q) (τ 190 (38 + 9 * k + q)) 189 2 = 0 := by rw [zs_other (by decide), ht.1 189 (by omega)]; exact s0
        first
          | (have hz : x7 < 0 := h155
             have e : zfit S k q l = -1 := by
               rcases h7 with h7 | h7
               · rw [h7.2]
                 have z : i = M + 1 := by omega
                 rw [z, Nat.sub_self]; rfl
               · omega
             exact zRM.ref fb (by rw [if_pos e]) (by decide))
          | (have hz : 0 ≤ x7 := h155
             have e : x7 = zfit S k q l := by
               rcases h7 with h7 | h7
               · omega
               · exact h7.2
             exact zRM.ok fb (by rw [if_neg (by omega)]) sb e)
    · refine g_iload (i := 7) (by decide +kernel) rfl ?_
      refine g_if_ge (off := 36) (tgt := 144) (by decide +kernel) (by decide) ⟨by omega, by omega⟩ (fun h108 => ?_) (fun h108 => ?_)
      · refine g_aload_n (i := 0) (by decide +kernel) rfl ?_
        refine g_getr f_Md_7 (by decide +kernel) (by omega) rfl rfl ?_
        refine g_iload (i := 4) (by decide +kernel) rfl ?_
        refine g_iload (i := 5) (by decide +kernel) rfl ?_
        refine g_iast (j := (38 + 9 * k + q)) (by decide +kernel) (by omega) rfl rfl (by omega) (by decide) ?_
        refine g_iload (i := 7) (by decide +kernel) rfl ?_
        refine g_if_ge (off := 12) (tgt := 167) (by decide +kernel) (by decide) ⟨by omega, by omega⟩ (fun h155 => ?_) (fun h155 => ?_)
        · refine g_iload (i := 7) (by decide +kernel) rfl ?_
          refine g_retI (by decide +kernel) rfl (Or.inl rfl) ⟨by decide, by decide⟩ ?_
          have fb := zTrM.back f0 ht
          have sb : zs ψ 190 (38 + 9 * k + q) (τ 190 (38 + 9 * k + q)) 189 2 = 0 := by rw [zs_other (by decide), ht.1 189 (by omega)]; exact s0
          first
            | (have hz : x7 < 0 := h155
               have e : zfit S k q l = -1 := by
                 rcases h7 with h7 | h7
                 · rw [h7.2]
                   have z : i = M + 1 := by omega
                   rw [z, Nat.sub_self]; rfl
                 · omega
               exact zRM.ref fb (by rw [if_pos e]) (by decide))
            | (have hz : 0 ≤ x7 := h155
               have e : x7 = zfit S k q l := by
                 rcases h7 with h7 | h7
                 · omega
                 · exact h7.2
               exact zRM.ok fb (by rw [if_neg (by omega)]) sb e)
        · refine g_aload_n (i := 0) (by decide +kernel) rfl ?_
          refine g_bipush (a := 8) (by decide +kernel) (by decide) ?_
          refine g_cVI (st := _) (c_Md_refuse hn) k_Md_refuse l_Md_295 (by decide +kernel) (by omega) rfl rfl rfl rfl (Nat.le_of_ble_eq_true rfl) (by decide) ⟨by decide, by decide⟩ ?_
          rintro a9 σ9 ⟨ea9, hσ9⟩
          obtain rfl := ea9.symm
          subst hσ9
          refine g_goto (off := 5) (tgt := 169) (by decide +kernel) (by decide) ?_
          refine g_retI (by decide +kernel) rfl (Or.inl rfl) ⟨by decide, by decide⟩ ?_
          have fb := zTrM.back f0 ht
          have sb : zs ψ 190 (38 + 9 * k + q) (τ 190 (38 + 9 * k + q)) 189 2 = 0 := by rw [zs_other (by decide), ht.1 189 (by omega)]; exact s0
          first
            | (have hz : x7 < 0 := h155
               have e : zfit S k q l = -1 := by
                 rcases h7 with h7 | h7
                 · rw [h7.2]
                   have z : i = M + 1 := by omega
                   rw [z, Nat.sub_self]; rfl
                 · omega
               exact zRM.ref fb (by rw [if_pos e]) (by decide))
            | (have hz : 0 ≤ x7 := h155
               have e : x7 = zfit S k q l := by
                 rcases h7 with h7 | h7
                 · omega
                 · exact h7.2
               exact zRM.ok fb (by rw [if_neg (by omega)]) sb e)
      · have es := zfr_s (fun n => decide (zfm S k q n = l)) (M - i) i
        rw [show M - i + 1 = M + 1 - i by omega] at es
        have h7 : zfit S k q l = zfr (fun n => decide (zfm S k q n = l)) (M + 1 - i) i := by
          rcases h7 with h7 | h7
          · exact h7.2
          · omega
        rw [es] at h7
        have mv : zmr q (i : Int) := ⟨by omega, by omega⟩
        have F2 : zFin (zOpM S k q (i : Int)) := zOpM_fin hF.1 kN (by omega) mv
        have lr := F2.lr
        refine g_aload_n (i := 0) (by decide +kernel) rfl ?_
        refine g_getr f_Md_7 (by decide +kernel) (by omega) rfl rfl ?_
        refine g_iload (i := 4) (by decide +kernel) rfl ?_
        refine g_iload (i := 8) (by decide +kernel) rfl ?_
        refine g_iast (j := (38 + 9 * k + q)) (by decide +kernel) (by omega) rfl rfl (by omega) (by decide) ?_
        obtain ⟨χ, eχ⟩ : ∃ χ, χ = zs ψ 190 (38 + 9 * k + q) (i : Int) := ⟨_, rfl⟩
        rw [← eχ]
        have hx : zTrM τ χ (38 + 9 * k + q) := by rw [eχ]; exact ht.put
        have E2 : zEqv (zOpM S k q (i : Int)) (zMw (χ 190) 0) := zTrM.eqv (r := 7) (j := 9 * k + q) hS.b hT.1 (by decide) (by decide) (by show 9 * k + q < 108; omega) (by show zTrM τ χ (38 + (9 * k + q)); rw [show 38 + (9 * k + q) = 38 + 9 * k + q by omega]; exact hx) (by show χ 190 (38 + (9 * k + q)) = _; rw [show 38 + (9 * k + q) = 38 + 9 * k + q by omega, eχ, zs_eq])
        have hP : zMc χ (zOpM S k q (i : Int)) := F2.mc E2
        refine g_aload_n (i := 0) (by decide +kernel) rfl ?_
        refine g_cVL (st := _) (c_Md_lasts hn hP) k_Md_lasts l_Md_163 (by decide +kernel) (by omega) rfl rfl rfl rfl (Nat.le_of_ble_eq_true rfl) (by decide) ⟨by decide, by decide⟩ ?_
        rintro a9 ω ⟨ea9, hf, hl2⟩
        have a9r : 0 ≤ a9 ∧ a9 ≤ 800000000 := by rw [ea9]; exact lr
        have hw := hx.lay hf
        have e9 : a9 = zfm S k q i := ea9
        refine g_iload_n (i := 3) (by decide +kernel) rfl ?_
        refine g_i2l (by decide +kernel) ⟨by omega, by omega⟩ ?_
        refine g_lcmp (by decide +kernel) ⟨by omega, by omega⟩ ⟨by omega, by omega⟩ ?_
        refine g_if_ne (off := 8) (tgt := 135) (by decide +kernel) (by decide) zcmp_r (fun h127 => ?_) (fun h127 => ?_)
        · have h127 := zcmp_ne.mp h127
          refine g_iconst (a := -1) (by decide +kernel) ?_
          refine g_istore (i := 7) (L' := [(0, _), (1, _), (2, _), (3, _), (4, _), (5, _), (6, _), (7, _), (8, _)]) (by decide +kernel) rfl rfl ?_
          refine g_iinc (i := 8) (b := 1) (L' := [(0, _), (1, _), (2, _), (3, _), (4, _), (5, _), (6, _), (7, _), (8, _)]) (by decide +kernel) rfl rfl rfl ?_
          refine g_goto (off := -42) (tgt := 99) (by decide +kernel) (by decide) ?_
          first
            | (have hz : a9 = l := h127
               rw [if_pos (decide_eq_true (by omega))] at h7
               exact ih (i + 1) _ _ ω (by push_cast; rfl) hw (Or.inr ⟨by omega, h7.symm⟩) (by omega) (by omega) (by omega) (by omega))
            | (have hz : a9 ≠ l := h127
               rw [if_neg (fun y => by have := of_decide_eq_true y; omega)] at h7
               exact ih (i + 1) _ _ ω (by push_cast; rfl) hw (Or.inl ⟨rfl, by rw [show M + 1 - (i + 1) = M - i by omega]; exact h7⟩) (by omega) (by omega) (by omega) (by omega))
        · have h127 := zcmp_eq.mp h127
          refine g_iload (i := 8) (by decide +kernel) rfl ?_
          refine g_goto (off := 4) (tgt := 136) (by decide +kernel) (by decide) ?_
          refine g_istore (i := 7) (L' := [(0, _), (1, _), (2, _), (3, _), (4, _), (5, _), (6, _), (7, _), (8, _)]) (by decide +kernel) rfl rfl ?_
          refine g_iinc (i := 8) (b := 1) (L' := [(0, _), (1, _), (2, _), (3, _), (4, _), (5, _), (6, _), (7, _), (8, _)]) (by decide +kernel) rfl rfl rfl ?_
          refine g_goto (off := -42) (tgt := 99) (by decide +kernel) (by decide) ?_
          first
            | (have hz : a9 = l := h127
               rw [if_pos (decide_eq_true (by omega))] at h7
               exact ih (i + 1) _ _ ω (by push_cast; rfl) hw (Or.inr ⟨by omega, h7.symm⟩) (by omega) (by omega) (by omega) (by omega))
            | (have hz : a9 ≠ l := h127
               rw [if_neg (fun y => by have := of_decide_eq_true y; omega)] at h7
               exact ih (i + 1) _ _ ω (by push_cast; rfl) hw (Or.inl ⟨rfl, by rw [show M + 1 - (i + 1) = M - i by omega]; exact h7⟩) (by omega) (by omega) (by omega) (by omega))
theorem c_Md_fit {G : zG} {n : Nat} {σ : zSt} {c w l : Int} {S : zSt} (hn : 220 ≤ n) (hF : zFine S) (hS : zMc σ S) (z1 : zr c) (z2 : zr w) (z3 : zr l) : Gm G y_Md_fit m_Md_fit 5 0 0 [vr G 189, vi c, vi w, vi l] n SH σ (zI n SH (fun a σ' => zRM σ σ' a (if w < 0 ∨ 2 < w ∨ ¬ (0 ≤ l ∧ l ≤ 1999) then 1 else if ¬ (0 ≤ c ∧ c < S 0 0) then 2 else if zfit S c.toNat w.toNat l = -1 then 8 else 0) (zfit S c.toNat w.toNat l))) := by
  refine g_enter (L := [(0, _), (1, _), (2, _), (3, _)]) (by decide) rfl rfl rfl (Nat.le_of_ble_eq_true rfl) (fun X => ?_)
  have e0 := hS.n
  have e8 := hS.p
  have hN := hS.N
  have hz : zN S = (S 0 0).toNat := rfl
  obtain ⟨z1a, z1b⟩ := id z1
  obtain ⟨z2a, z2b⟩ := id z2
  obtain ⟨z3a, z3b⟩ := id z3
  refine g_aload_n (i := 0) (by decide +kernel) rfl ?_
  refine g_iconst (a := 0) (by decide +kernel) ?_
  refine g_puti f_Md_142 (by decide +kernel) (by omega) rfl rfl ?_
  refine g_aload_n (i := 0) (by decide +kernel) rfl ?_
  refine g_iconst (a := 0) (by decide +kernel) ?_
  refine g_puti f_Md_145 (by decide +kernel) (by omega) rfl rfl ?_
  obtain ⟨τ, eτ⟩ : ∃ τ, τ = zs (zs σ 189 3 0) 189 2 0 := ⟨_, rfl⟩
  rw [← eτ]
  have f0 : zMF σ τ := by rw [eτ]; exact ((zMF.rf σ).put (by decide)).put (by decide)
  have s0 : τ 189 2 = 0 := by rw [eτ, zs_eq]
  have hT : zMc τ S := hS.moved (f0.1 190 (by decide))
  have et := hT.n
  have ep := hT.p
  refine g_iload_n (i := 2) (by decide +kernel) rfl ?_
  refine g_iconst (a := 0) (by decide +kernel) ?_
  refine g_iconst (a := 2) (by decide +kernel) ?_
  refine g_cSI (st := _) (c_Md_isIn ⟨by omega, by omega⟩ ⟨by omega, by omega⟩ ⟨by omega, by omega⟩) k_Md_isIn l_Md_152 (by decide +kernel) rfl rfl (Nat.le_of_ble_eq_true rfl) (by decide) ⟨by decide, by decide⟩ ?_
  rintro a9 σ9 ⟨ea9, hσ9⟩
  obtain rfl := hσ9.symm
  subst ea9
  refine g_if_eq (off := 14) (tgt := 30) (by decide +kernel) (by decide) zbr (fun h16 => ?_) (fun h16 => ?_)
  · have h16 := zb0.mp h16
    refine g_aload_n (i := 0) (by decide +kernel) rfl ?_
    refine g_iconst (a := 1) (by decide +kernel) ?_
    refine g_cVI (st := _) (c_Md_refuse hn) k_Md_refuse l_Md_295 (by decide +kernel) (by omega) rfl rfl rfl rfl (Nat.le_of_ble_eq_true rfl) (by decide) ⟨by decide, by decide⟩ ?_
    rintro a9 σ9 ⟨ea9, hσ9⟩
    obtain rfl := ea9.symm
    subst hσ9
    refine g_retI (by decide +kernel) rfl (Or.inl rfl) ⟨by decide, by decide⟩ ?_
    exact zRM.ref f0 (if_pos (by omega)) (by decide)
  · have h16 := zb1.mp h16
    refine g_iload_n (i := 3) (by decide +kernel) rfl ?_
    refine g_iconst (a := 0) (by decide +kernel) ?_
    refine g_sipush (a := 1999) (by decide +kernel) (by decide) ?_
    refine g_cSI (st := _) (c_Md_isIn ⟨by omega, by omega⟩ ⟨by omega, by omega⟩ ⟨by omega, by omega⟩) k_Md_isIn l_Md_152 (by decide +kernel) rfl rfl (Nat.le_of_ble_eq_true rfl) (by decide) ⟨by decide, by decide⟩ ?_
    rintro a9 σ9 ⟨ea9, hσ9⟩
    obtain rfl := hσ9.symm
    subst ea9
    refine g_if_ne (off := 9) (tgt := 36) (by decide +kernel) (by decide) zbr (fun h27 => ?_) (fun h27 => ?_)
    · have h27 := zb1.mp h27
      refine g_aload_n (i := 0) (by decide +kernel) rfl ?_
      refine g_iload_n (i := 1) (by decide +kernel) rfl ?_
      refine g_cVI (st := _) (c_Md_isClip (k := c) hn (by assumption) (by rw [hT.n]; omega)) k_Md_isClip l_Md_313 (by decide +kernel) (by omega) rfl rfl rfl rfl (Nat.le_of_ble_eq_true rfl) (by decide) ⟨by decide, by decide⟩ ?_
      rintro a9 σ9 ⟨ea9, hσ9⟩
      obtain rfl := hσ9.symm
      rw [hT.n] at ea9
      subst ea9
      refine g_if_ne (off := 9) (tgt := 50) (by decide +kernel) (by decide) zbr (fun h41 => ?_) (fun h41 => ?_)
      · have h41 := zb1.mp h41
        obtain ⟨k, rfl⟩ := Int.eq_ofNat_of_zero_le h41.1
        obtain ⟨q, rfl⟩ := Int.eq_ofNat_of_zero_le (show 0 ≤ w by omega)
        have kN : k < zN S := by omega
        refine g_bipush (a := 38) (by decide +kernel) (by decide) ?_
        refine g_bipush (a := 9) (by decide +kernel) (by decide) ?_
        refine g_iload_n (i := 1) (by decide +kernel) rfl ?_
        refine g_imul (by decide +kernel) ?_
        refine g_iadd (by decide +kernel) ?_
        refine g_iload_n (i := 2) (by decide +kernel) rfl ?_
        refine g_iadd (by decide +kernel) ?_
        rw [show (38 : Int) + 9 * (k : Int) + (q : Int) = ((38 + 9 * k + q : Nat) : Int) by omega]
        refine g_istore (i := 4) (L' := [(0, _), (1, _), (2, _), (3, _), (4, _)]) (by decide +kernel) rfl rfl ?_
        refine g_aload_n (i := 0) (by decide +kernel) rfl ?_
        refine g_getr f_Md_7 (by decide +kernel) (by omega) rfl rfl ?_
        refine g_iload (i := 4) (by decide +kernel) rfl ?_
        refine g_iald (j := (38 + 9 * k + q)) (by decide +kernel) (by omega) rfl rfl (by omega) (by decide) ?_
        refine g_istore (i := 5) (L' := [(0, _), (1, _), (2, _), (3, _), (4, _), (5, _)]) (by decide +kernel) rfl rfl ?_
        refine g_iload_n (i := 2) (by decide +kernel) rfl ?_
        refine g_if_ne (off := 9) (tgt := 80) (by decide +kernel) (by decide) ⟨by omega, by omega⟩ (fun h71 => ?_) (fun h71 => ?_)
        · refine g_iload_n (i := 2) (by decide +kernel) rfl ?_
          refine g_iconst (a := 1) (by decide +kernel) ?_
          refine g_icmp_ne (off := 7) (tgt := 89) (by decide +kernel) (by decide) ⟨by omega, by omega⟩ ⟨by omega, by omega⟩ (fun h82 => ?_) (fun h82 => ?_)
          · refine g_bipush (a := 9) (by decide +kernel) (by decide) ?_
            refine g_istore (i := 6) (L' := [(0, _), (1, _), (2, _), (3, _), (4, _), (5, _), (6, _)]) (by decide +kernel) rfl rfl ?_
            refine g_iconst (a := -1) (by decide +kernel) ?_
            refine g_istore (i := 7) (L' := [(0, _), (1, _), (2, _), (3, _), (4, _), (5, _), (6, _), (7, _)]) (by decide +kernel) rfl rfl ?_
            refine g_iconst (a := 1) (by decide +kernel) ?_
            refine g_istore (i := 8) (L' := [(0, _), (1, _), (2, _), (3, _), (4, _), (5, _), (6, _), (7, _), (8, _)]) (by decide +kernel) rfl rfl ?_
            rw [if_neg (by omega), if_neg (fun y => y h41)]
            simp only [Int.toNat_natCast]
            first
              | (have e : q = 0 := by omega
                 subst e
                 exact w_Md_fit (M := 999) (q := 0) hn hF hS kN (by omega) rfl (by omega) f0 s0 hT 1000 1 _ _ τ rfl ⟨fun _ _ => rfl, fun _ _ => rfl⟩ (Or.inl ⟨rfl, rfl⟩) (by omega) (by omega) (by omega) (by omega))
              | (have e : q = 1 := by omega
                 subst e
                 exact w_Md_fit (M := 4) (q := 1) hn hF hS kN (by omega) rfl (by omega) f0 s0 hT 5 1 _ _ τ rfl ⟨fun _ _ => rfl, fun _ _ => rfl⟩ (Or.inl ⟨rfl, rfl⟩) (by omega) (by omega) (by omega) (by omega))
              | (have e : q = 2 := by omega
                 subst e
                 exact w_Md_fit (M := 9) (q := 2) hn hF hS kN (by omega) rfl (by omega) f0 s0 hT 10 1 _ _ τ rfl ⟨fun _ _ => rfl, fun _ _ => rfl⟩ (Or.inl ⟨rfl, rfl⟩) (by omega) (by omega) (by omega) (by omega))
          · refine g_iconst (a := 4) (by decide +kernel) ?_
            refine g_goto (off := 5) (tgt := 91) (by decide +kernel) (by decide) ?_
            refine g_istore (i := 6) (L' := [(0, _), (1, _), (2, _), (3, _), (4, _), (5, _), (6, _)]) (by decide +kernel) rfl rfl ?_
            refine g_iconst (a := -1) (by decide +kernel) ?_
            refine g_istore (i := 7) (L' := [(0, _), (1, _), (2, _), (3, _), (4, _), (5, _), (6, _), (7, _)]) (by decide +kernel) rfl rfl ?_
            refine g_iconst (a := 1) (by decide +kernel) ?_
            refine g_istore (i := 8) (L' := [(0, _), (1, _), (2, _), (3, _), (4, _), (5, _), (6, _), (7, _), (8, _)]) (by decide +kernel) rfl rfl ?_
            rw [if_neg (by omega), if_neg (fun y => y h41)]
            simp only [Int.toNat_natCast]
            first
              | (have e : q = 0 := by omega
                 subst e
                 exact w_Md_fit (M := 999) (q := 0) hn hF hS kN (by omega) rfl (by omega) f0 s0 hT 1000 1 _ _ τ rfl ⟨fun _ _ => rfl, fun _ _ => rfl⟩ (Or.inl ⟨rfl, rfl⟩) (by omega) (by omega) (by omega) (by omega))
              | (have e : q = 1 := by omega
                 subst e
                 exact w_Md_fit (M := 4) (q := 1) hn hF hS kN (by omega) rfl (by omega) f0 s0 hT 5 1 _ _ τ rfl ⟨fun _ _ => rfl, fun _ _ => rfl⟩ (Or.inl ⟨rfl, rfl⟩) (by omega) (by omega) (by omega) (by omega))
              | (have e : q = 2 := by omega
                 subst e
                 exact w_Md_fit (M := 9) (q := 2) hn hF hS kN (by omega) rfl (by omega) f0 s0 hT 10 1 _ _ τ rfl ⟨fun _ _ => rfl, fun _ _ => rfl⟩ (Or.inl ⟨rfl, rfl⟩) (by omega) (by omega) (by omega) (by omega))
        · refine g_sipush (a := 999) (by decide +kernel) (by decide) ?_
          refine g_goto (off := 14) (tgt := 91) (by decide +kernel) (by decide) ?_
          refine g_istore (i := 6) (L' := [(0, _), (1, _), (2, _), (3, _), (4, _), (5, _), (6, _)]) (by decide +kernel) rfl rfl ?_
          refine g_iconst (a := -1) (by decide +kernel) ?_
          refine g_istore (i := 7) (L' := [(0, _), (1, _), (2, _), (3, _), (4, _), (5, _), (6, _), (7, _)]) (by decide +kernel) rfl rfl ?_
          refine g_iconst (a := 1) (by decide +kernel) ?_
          refine g_istore (i := 8) (L' := [(0, _), (1, _), (2, _), (3, _), (4, _), (5, _), (6, _), (7, _), (8, _)]) (by decide +kernel) rfl rfl ?_
          rw [if_neg (by omega), if_neg (fun y => y h41)]
          simp only [Int.toNat_natCast]
          first
            | (have e : q = 0 := by omega
               subst e
               exact w_Md_fit (M := 999) (q := 0) hn hF hS kN (by omega) rfl (by omega) f0 s0 hT 1000 1 _ _ τ rfl ⟨fun _ _ => rfl, fun _ _ => rfl⟩ (Or.inl ⟨rfl, rfl⟩) (by omega) (by omega) (by omega) (by omega))
            | (have e : q = 1 := by omega
               subst e
               exact w_Md_fit (M := 4) (q := 1) hn hF hS kN (by omega) rfl (by omega) f0 s0 hT 5 1 _ _ τ rfl ⟨fun _ _ => rfl, fun _ _ => rfl⟩ (Or.inl ⟨rfl, rfl⟩) (by omega) (by omega) (by omega) (by omega))
            | (have e : q = 2 := by omega
               subst e
               exact w_Md_fit (M := 9) (q := 2) hn hF hS kN (by omega) rfl (by omega) f0 s0 hT 10 1 _ _ τ rfl ⟨fun _ _ => rfl, fun _ _ => rfl⟩ (Or.inl ⟨rfl, rfl⟩) (by omega) (by omega) (by omega) (by omega))
      · have h41 := zb0.mp h41
        refine g_aload_n (i := 0) (by decide +kernel) rfl ?_
        refine g_iconst (a := 2) (by decide +kernel) ?_
        refine g_cVI (st := _) (c_Md_refuse hn) k_Md_refuse l_Md_295 (by decide +kernel) (by omega) rfl rfl rfl rfl (Nat.le_of_ble_eq_true rfl) (by decide) ⟨by decide, by decide⟩ ?_
        rintro a9 σ9 ⟨ea9, hσ9⟩
        obtain rfl := ea9.symm
        subst hσ9
        refine g_retI (by decide +kernel) rfl (Or.inl rfl) ⟨by decide, by decide⟩ ?_
        exact zRM.ref f0 (by rw [if_neg (by omega), if_pos h41]) (by decide)
    · have h27 := zb0.mp h27
      refine g_aload_n (i := 0) (by decide +kernel) rfl ?_
      refine g_iconst (a := 1) (by decide +kernel) ?_
      refine g_cVI (st := _) (c_Md_refuse hn) k_Md_refuse l_Md_295 (by decide +kernel) (by omega) rfl rfl rfl rfl (Nat.le_of_ble_eq_true rfl) (by decide) ⟨by decide, by decide⟩ ?_
      rintro a9 σ9 ⟨ea9, hσ9⟩
      obtain rfl := ea9.symm
      subst hσ9
      refine g_retI (by decide +kernel) rfl (Or.inl rfl) ⟨by decide, by decide⟩ ?_
      exact zRM.ref f0 (if_pos (by omega)) (by decide)
theorem w_Md_slack {G : zG} {X : zX} {n : Nat} {σ : zSt} {τ : zSt} {k o : Nat} {S : zSt} (hn : 220 ≤ n) (hF : zFine S) (hS : zMc σ S) (kN : k < zN S) (eo : S 6 k = (o : Int)) (h4 : S 4 k = 0) (f0 : zMF σ τ) (s0 : τ 189 2 = 0) (hT : zMc τ S)  : ∀ (m : Nat) (i : Nat) (x5 x6 : Int) (ψ : zSt), x6 = (i : Int) → zTrM τ ψ (170 + k) → ((x5 = -1 ∧ zslk S k = zfr (fun n => decide (zlast S < zlast (zOp6 S k (n : Int)))) (1000 - i) i) ∨ (0 ≤ x5 ∧ x5 = zslk S k - (o : Int) - 1 ∧ 0 ≤ zslk S k)) → (-1 ≤ x5 ∧ x5 ≤ 999) → o + 1 ≤ i → i ≤ 1000 → 1000 < i + m → Go G X m_Md_slack (5, 0, 0, 0, 0) n SH ψ 69 [(0, vr G 189), (1, vi (k : Int)), (2, vl (zlast S)), (4, vi (o : Int)), (5, vi x5), (6, vi x6)] [] (zI n SH (fun a σ' => zRM σ σ' a (if zslk S k = -1 then 8 else 0) (zslk S k - S 6 k - 1))) := by
  intro m
  induction m with
  | zero => intro i x5 x6 ψ e6 ht h5 r5 h1 hi hm; exact absurd hm (by omega)
  | succ m ih =>
    intro i x5 x6 ψ e6 ht h5 r5 h1 hi hm
    subst e6
    have hN := hS.N
    have hz : zN S = (S 0 0).toNat := rfl
    have lS := hF.1.lr
    have t6 : τ 190 (170 + k) = (o : Int) := by rw [hT.mu kN]; exact eo
    refine g_iload (i := 6) (by decide +kernel) rfl ?_
    refine g_sipush (a := 999) (by decide +kernel) (by decide) ?_
    refine g_icmp_gt (off := 48) (tgt := 122) (by decide +kernel) (by decide) ⟨by omega, by omega⟩ ⟨by omega, by omega⟩ (fun h74 => ?_) (fun h74 => ?_)
    · refine g_aload_n (i := 0) (by decide +kernel) rfl ?_
      refine g_getr f_Md_7 (by decide +kernel) (by omega) rfl rfl ?_
      refine g_sipush (a := 170) (by decide +kernel) (by decide) ?_
      refine g_iload_n (i := 1) (by decide +kernel) rfl ?_
      refine g_iadd (by decide +kernel) ?_
      refine g_iload (i := 4) (by decide +kernel) rfl ?_
      refine g_iast (j := (170 + k)) (by decide +kernel) (by omega) rfl (by omega) (by omega) (by decide) ?_
      refine g_iload (i := 5) (by decide +kernel) rfl ?_
      refine g_if_ge (off := 12) (tgt := 148) (by decide +kernel) (by decide) ⟨by omega, by omega⟩ (fun h136 => ?_) (fun h136 => ?_)
      · refine g_iload (i := 5) (by decide +kernel) rfl ?_
        refine g_retI (by decide +kernel) rfl (Or.inl rfl) ⟨by decide, by decide⟩ ?_
        have fb := zTrM.back f0 ht
        rw [t6] at fb
        have sb : zs ψ 190 (170 + k) (o : Int) 189 2 = 0 := by rw [zs_other (by decide), ht.1 189 (by omega)]; exact s0
        first
          | (have hz : x5 < 0 := h136
             have e : zslk S k = -1 := by
               rcases h5 with h5 | h5
               · rw [h5.2]
                 have z : i = 1000 := by omega
                 rw [z, Nat.sub_self]; rfl
               · omega
             exact zRM.ref fb (by rw [if_pos e]) (by decide))
          | (have hz : 0 ≤ x5 := h136
             have e : x5 = zslk S k - (o : Int) - 1 ∧ 0 ≤ zslk S k := by
               rcases h5 with h5 | h5
               · omega
               · exact h5.2
             exact zRM.ok fb (by rw [if_neg (by omega)]) sb (by omega))
      · refine g_aload_n (i := 0) (by decide +kernel) rfl ?_
        refine g_bipush (a := 8) (by decide +kernel) (by decide) ?_
        refine g_cVI (st := _) (c_Md_refuse hn) k_Md_refuse l_Md_295 (by decide +kernel) (by omega) rfl rfl rfl rfl (Nat.le_of_ble_eq_true rfl) (by decide) ⟨by decide, by decide⟩ ?_
        rintro a9 σ9 ⟨ea9, hσ9⟩
        obtain rfl := ea9.symm
        subst hσ9
        refine g_goto (off := 5) (tgt := 150) (by decide +kernel) (by decide) ?_
        refine g_retI (by decide +kernel) rfl (Or.inl rfl) ⟨by decide, by decide⟩ ?_
        have fb := zTrM.back f0 ht
        rw [t6] at fb
        have sb : zs ψ 190 (170 + k) (o : Int) 189 2 = 0 := by rw [zs_other (by decide), ht.1 189 (by omega)]; exact s0
        first
          | (have hz : x5 < 0 := h136
             have e : zslk S k = -1 := by
               rcases h5 with h5 | h5
               · rw [h5.2]
                 have z : i = 1000 := by omega
                 rw [z, Nat.sub_self]; rfl
               · omega
             exact zRM.ref fb (by rw [if_pos e]) (by decide))
          | (have hz : 0 ≤ x5 := h136
             have e : x5 = zslk S k - (o : Int) - 1 ∧ 0 ≤ zslk S k := by
               rcases h5 with h5 | h5
               · omega
               · exact h5.2
             exact zRM.ok fb (by rw [if_neg (by omega)]) sb (by omega))
    · refine g_iload (i := 5) (by decide +kernel) rfl ?_
      refine g_if_ge (off := 43) (tgt := 122) (by decide +kernel) (by decide) ⟨by omega, by omega⟩ (fun h79 => ?_) (fun h79 => ?_)
      · refine g_aload_n (i := 0) (by decide +kernel) rfl ?_
        refine g_getr f_Md_7 (by decide +kernel) (by omega) rfl rfl ?_
        refine g_sipush (a := 170) (by decide +kernel) (by decide) ?_
        refine g_iload_n (i := 1) (by decide +kernel) rfl ?_
        refine g_iadd (by decide +kernel) ?_
        refine g_iload (i := 4) (by decide +kernel) rfl ?_
        refine g_iast (j := (170 + k)) (by decide +kernel) (by omega) rfl (by omega) (by omega) (by decide) ?_
        refine g_iload (i := 5) (by decide +kernel) rfl ?_
        refine g_if_ge (off := 12) (tgt := 148) (by decide +kernel) (by decide) ⟨by omega, by omega⟩ (fun h136 => ?_) (fun h136 => ?_)
        · refine g_iload (i := 5) (by decide +kernel) rfl ?_
          refine g_retI (by decide +kernel) rfl (Or.inl rfl) ⟨by decide, by decide⟩ ?_
          have fb := zTrM.back f0 ht
          rw [t6] at fb
          have sb : zs ψ 190 (170 + k) (o : Int) 189 2 = 0 := by rw [zs_other (by decide), ht.1 189 (by omega)]; exact s0
          first
            | (have hz : x5 < 0 := h136
               have e : zslk S k = -1 := by
                 rcases h5 with h5 | h5
                 · rw [h5.2]
                   have z : i = 1000 := by omega
                   rw [z, Nat.sub_self]; rfl
                 · omega
               exact zRM.ref fb (by rw [if_pos e]) (by decide))
            | (have hz : 0 ≤ x5 := h136
               have e : x5 = zslk S k - (o : Int) - 1 ∧ 0 ≤ zslk S k := by
                 rcases h5 with h5 | h5
                 · omega
                 · exact h5.2
               exact zRM.ok fb (by rw [if_neg (by omega)]) sb (by omega))
        · refine g_aload_n (i := 0) (by decide +kernel) rfl ?_
          refine g_bipush (a := 8) (by decide +kernel) (by decide) ?_
          refine g_cVI (st := _) (c_Md_refuse hn) k_Md_refuse l_Md_295 (by decide +kernel) (by omega) rfl rfl rfl rfl (Nat.le_of_ble_eq_true rfl) (by decide) ⟨by decide, by decide⟩ ?_
          rintro a9 σ9 ⟨ea9, hσ9⟩
          obtain rfl := ea9.symm
          subst hσ9
          refine g_goto (off := 5) (tgt := 150) (by decide +kernel) (by decide) ?_
          refine g_retI (by decide +kernel) rfl (Or.inl rfl) ⟨by decide, by decide⟩ ?_
          have fb := zTrM.back f0 ht
          rw [t6] at fb
          have sb : zs ψ 190 (170 + k) (o : Int) 189 2 = 0 := by rw [zs_other (by decide), ht.1 189 (by omega)]; exact s0
          first
            | (have hz : x5 < 0 := h136
               have e : zslk S k = -1 := by
                 rcases h5 with h5 | h5
                 · rw [h5.2]
                   have z : i = 1000 := by omega
                   rw [z, Nat.sub_self]; rfl
                 · omega
               exact zRM.ref fb (by rw [if_pos e]) (by decide))
            | (have hz : 0 ≤ x5 := h136
               have e : x5 = zslk S k - (o : Int) - 1 ∧ 0 ≤ zslk S k := by
                 rcases h5 with h5 | h5
                 · omega
                 · exact h5.2
               exact zRM.ok fb (by rw [if_neg (by omega)]) sb (by omega))
      · have es := zfr_s (fun n => decide (zlast S < zlast (zOp6 S k (n : Int)))) (999 - i) i
        rw [show 999 - i + 1 = 1000 - i by omega] at es
        have h5 : zslk S k = zfr (fun n => decide (zlast S < zlast (zOp6 S k (n : Int)))) (1000 - i) i := by
          rcases h5 with h5 | h5
          · exact h5.2
          · omega
        rw [es] at h5
        have F2 : zFin (zOp6 S k (i : Int)) := zOp6_fin hF.1 (by omega)
        have lr := F2.lr
        refine g_aload_n (i := 0) (by decide +kernel) rfl ?_
        refine g_getr f_Md_7 (by decide +kernel) (by omega) rfl rfl ?_
        refine g_sipush (a := 170) (by decide +kernel) (by decide) ?_
        refine g_iload_n (i := 1) (by decide +kernel) rfl ?_
        refine g_iadd (by decide +kernel) ?_
        refine g_iload (i := 6) (by decide +kernel) rfl ?_
        refine g_iast (j := (170 + k)) (by decide +kernel) (by omega) rfl (by omega) (by omega) (by decide) ?_
        obtain ⟨χ, eχ⟩ : ∃ χ, χ = zs ψ 190 (170 + k) (i : Int) := ⟨_, rfl⟩
        rw [← eχ]
        have hx : zTrM τ χ (170 + k) := by rw [eχ]; exact ht.put
        have E2 : zEqv (zOp6 S k (i : Int)) (zMw (χ 190) 0) := zTrM.eqv (r := 6) (j := k) hS.b hT.1 (by decide) (by decide) (by show k < 12; omega) hx (by show χ 190 (170 + k) = _; rw [eχ, zs_eq])
        have hP : zMc χ (zOp6 S k (i : Int)) := F2.mc E2
        refine g_aload_n (i := 0) (by decide +kernel) rfl ?_
        refine g_cVL (st := _) (c_Md_lasts hn hP) k_Md_lasts l_Md_163 (by decide +kernel) (by omega) rfl rfl rfl rfl (Nat.le_of_ble_eq_true rfl) (by decide) ⟨by decide, by decide⟩ ?_
        rintro a9 ω ⟨ea9, hf, hl2⟩
        have a9r : 0 ≤ a9 ∧ a9 ≤ 800000000 := by rw [ea9]; exact lr
        have hw := hx.lay hf
        refine g_lload_n (i := 2) (by decide +kernel) rfl ?_
        refine g_lcmp (by decide +kernel) ⟨by omega, by omega⟩ ⟨by omega, by omega⟩ ?_
        refine g_if_le (off := 13) (tgt := 113) (by decide +kernel) (by decide) zcmp_r (fun h100 => ?_) (fun h100 => ?_)
        · have h100 := zcmp_le.mp h100
          refine g_iconst (a := -1) (by decide +kernel) ?_
          refine g_istore (i := 5) (L' := [(0, _), (1, _), (2, _), (4, _), (5, _), (6, _)]) (by decide +kernel) rfl rfl ?_
          refine g_iinc (i := 6) (b := 1) (L' := [(0, _), (1, _), (2, _), (4, _), (5, _), (6, _)]) (by decide +kernel) rfl rfl rfl ?_
          refine g_goto (off := -50) (tgt := 69) (by decide +kernel) (by decide) ?_
          first
            | (have hz : a9 ≤ zlast S := h100
               rw [if_neg (fun y => by have := of_decide_eq_true y; omega)] at h5
               exact ih (i + 1) _ _ ω (by push_cast; rfl) hw (Or.inl ⟨rfl, by rw [show 1000 - (i + 1) = 999 - i by omega]; exact h5⟩) (by omega) (by omega) (by omega) (by omega))
            | (have hz : zlast S < a9 := h100
               rw [if_pos (decide_eq_true (by omega))] at h5
               exact ih (i + 1) _ _ ω (by push_cast; rfl) hw (Or.inr ⟨by omega, by rw [h5], by omega⟩) (by omega) (by omega) (by omega) (by omega))
        · have h100 := zcmp_gt.mp h100
          refine g_iload (i := 6) (by decide +kernel) rfl ?_
          refine g_iload (i := 4) (by decide +kernel) rfl ?_
          refine g_isub (by decide +kernel) ?_
          refine g_iconst (a := 1) (by decide +kernel) ?_
          refine g_isub (by decide +kernel) ?_
          refine g_goto (off := 4) (tgt := 114) (by decide +kernel) (by decide) ?_
          refine g_istore (i := 5) (L' := [(0, _), (1, _), (2, _), (4, _), (5, _), (6, _)]) (by decide +kernel) rfl rfl ?_
          refine g_iinc (i := 6) (b := 1) (L' := [(0, _), (1, _), (2, _), (4, _), (5, _), (6, _)]) (by decide +kernel) rfl rfl rfl ?_
          refine g_goto (off := -50) (tgt := 69) (by decide +kernel) (by decide) ?_
          first
            | (have hz : a9 ≤ zlast S := h100
               rw [if_neg (fun y => by have := of_decide_eq_true y; omega)] at h5
               exact ih (i + 1) _ _ ω (by push_cast; rfl) hw (Or.inl ⟨rfl, by rw [show 1000 - (i + 1) = 999 - i by omega]; exact h5⟩) (by omega) (by omega) (by omega) (by omega))
            | (have hz : zlast S < a9 := h100
               rw [if_pos (decide_eq_true (by omega))] at h5
               exact ih (i + 1) _ _ ω (by push_cast; rfl) hw (Or.inr ⟨by omega, by rw [h5], by omega⟩) (by omega) (by omega) (by omega) (by omega))
theorem c_Md_slack {G : zG} {n : Nat} {σ : zSt} {c : Int} {S : zSt} (hn : 220 ≤ n) (hF : zFine S) (hS : zMc σ S) (z1 : zr c) : Gm G y_Md_slack m_Md_slack 5 0 0 [vr G 189, vi c] n SH σ (zI n SH (fun a σ' => zRM σ σ' a (if ¬ (0 ≤ c ∧ c < S 0 0) then 2 else if S 4 c.toNat ≠ 0 then 5 else if zslk S c.toNat = -1 then 8 else 0) (zslk S c.toNat - S 6 c.toNat - 1))) := by
  refine g_enter (L := [(0, _), (1, _)]) (by decide) rfl rfl rfl (Nat.le_of_ble_eq_true rfl) (fun X => ?_)
  have e0 := hS.n
  have e8 := hS.p
  have hN := hS.N
  have hz : zN S = (S 0 0).toNat := rfl
  obtain ⟨z1a, z1b⟩ := id z1
  refine g_aload_n (i := 0) (by decide +kernel) rfl ?_
  refine g_iconst (a := 0) (by decide +kernel) ?_
  refine g_puti f_Md_142 (by decide +kernel) (by omega) rfl rfl ?_
  refine g_aload_n (i := 0) (by decide +kernel) rfl ?_
  refine g_iconst (a := 0) (by decide +kernel) ?_
  refine g_puti f_Md_145 (by decide +kernel) (by omega) rfl rfl ?_
  obtain ⟨τ, eτ⟩ : ∃ τ, τ = zs (zs σ 189 3 0) 189 2 0 := ⟨_, rfl⟩
  rw [← eτ]
  have f0 : zMF σ τ := by rw [eτ]; exact ((zMF.rf σ).put (by decide)).put (by decide)
  have s0 : τ 189 2 = 0 := by rw [eτ, zs_eq]
  have hT : zMc τ S := hS.moved (f0.1 190 (by decide))
  have et := hT.n
  have ep := hT.p
  refine g_aload_n (i := 0) (by decide +kernel) rfl ?_
  refine g_iload_n (i := 1) (by decide +kernel) rfl ?_
  refine g_cVI (st := _) (c_Md_isClip (k := c) hn (by assumption) (by rw [hT.n]; omega)) k_Md_isClip l_Md_313 (by decide +kernel) (by omega) rfl rfl rfl rfl (Nat.le_of_ble_eq_true rfl) (by decide) ⟨by decide, by decide⟩ ?_
  rintro a9 σ9 ⟨ea9, hσ9⟩
  obtain rfl := hσ9.symm
  rw [hT.n] at ea9
  subst ea9
  refine g_if_ne (off := 9) (tgt := 24) (by decide +kernel) (by decide) zbr (fun h15 => ?_) (fun h15 => ?_)
  · have h15 := zb1.mp h15
    obtain ⟨k, rfl⟩ := Int.eq_ofNat_of_zero_le h15.1
    have kN : k < zN S := by omega
    have k4 := hT.hw kN
    have kr := hT.rg (show k < 12 by omega)
    refine g_aload_n (i := 0) (by decide +kernel) rfl ?_
    refine g_getr f_Md_7 (by decide +kernel) (by omega) rfl rfl ?_
    refine g_sipush (a := 146) (by decide +kernel) (by decide) ?_
    refine g_iload_n (i := 1) (by decide +kernel) rfl ?_
    refine g_iadd (by decide +kernel) ?_
    refine g_iald (j := (146 + k)) (by decide +kernel) (by omega) rfl (by omega) (by omega) (by decide) ?_
    refine g_if_eq (off := 9) (tgt := 43) (by decide +kernel) (by decide) ⟨by omega, by omega⟩ (fun h34 => ?_) (fun h34 => ?_)
    · obtain ⟨o, eo⟩ := Int.eq_ofNat_of_zero_le kr.2.2.2.2.2.1
      refine g_aload_n (i := 0) (by decide +kernel) rfl ?_
      refine g_cVL (st := _) (c_Md_lasts hn hT) k_Md_lasts l_Md_163 (by decide +kernel) (by omega) rfl rfl rfl rfl (Nat.le_of_ble_eq_true rfl) (by decide) ⟨by decide, by decide⟩ ?_
      rintro a9 υ ⟨ea9, hf, hl2⟩
      subst ea9
      have f1 := f0.of (fun a ha => hf a (by omega))
      have s1 : υ 189 2 = 0 := by rw [hf 189 (by omega)]; exact s0
      have hU : zMc υ S := hT.moved (hf 190 (by omega))
      refine g_lstore_n (i := 2) (L' := [(0, _), (1, _), (2, _)]) (by decide +kernel) rfl rfl ?_
      refine g_aload_n (i := 0) (by decide +kernel) rfl ?_
      refine g_getr f_Md_7 (by decide +kernel) (by omega) rfl rfl ?_
      refine g_sipush (a := 170) (by decide +kernel) (by decide) ?_
      refine g_iload_n (i := 1) (by decide +kernel) rfl ?_
      refine g_iadd (by decide +kernel) ?_
      refine g_iald (j := (170 + k)) (by decide +kernel) (by omega) rfl (by omega) (by omega) (by decide) ?_
      rw [show υ 190 (170 + k) = (o : Int) by rw [hU.mu kN]; exact eo]
      refine g_istore (i := 4) (L' := [(0, _), (1, _), (2, _), (4, _)]) (by decide +kernel) rfl rfl ?_
      refine g_iconst (a := -1) (by decide +kernel) ?_
      refine g_istore (i := 5) (L' := [(0, _), (1, _), (2, _), (4, _), (5, _)]) (by decide +kernel) rfl rfl ?_
      refine g_iload (i := 4) (by decide +kernel) rfl ?_
      refine g_iconst (a := 1) (by decide +kernel) ?_
      refine g_iadd (by decide +kernel) ?_
      refine g_istore (i := 6) (L' := [(0, _), (1, _), (2, _), (4, _), (5, _), (6, _)]) (by decide +kernel) rfl rfl ?_
      rw [if_neg (fun y => y h15)]
      simp only [Int.toNat_natCast]
      rw [if_neg (by omega)]
      refine w_Md_slack hn hF hS kN eo (by omega) f1 s1 hU 1000 (o + 1) _ _ υ (by push_cast; rfl) ⟨fun _ _ => rfl, fun _ _ => rfl⟩ (Or.inl ⟨rfl, ?_⟩) (by omega) (by omega) (by omega) (by omega)
      unfold zslk
      rw [eo, Int.toNat_natCast, show 1000 - (o + 1) = 999 - o by omega]
    · refine g_aload_n (i := 0) (by decide +kernel) rfl ?_
      refine g_iconst (a := 5) (by decide +kernel) ?_
      refine g_cVI (st := _) (c_Md_refuse hn) k_Md_refuse l_Md_295 (by decide +kernel) (by omega) rfl rfl rfl rfl (Nat.le_of_ble_eq_true rfl) (by decide) ⟨by decide, by decide⟩ ?_
      rintro a9 σ9 ⟨ea9, hσ9⟩
      obtain rfl := ea9.symm
      subst hσ9
      refine g_retI (by decide +kernel) rfl (Or.inl rfl) ⟨by decide, by decide⟩ ?_
      exact zRM.ref f0 (by rw [Int.toNat_natCast, if_neg (fun y => y h15), if_pos (by omega)]) (by decide)
  · have h15 := zb0.mp h15
    refine g_aload_n (i := 0) (by decide +kernel) rfl ?_
    refine g_iconst (a := 2) (by decide +kernel) ?_
    refine g_cVI (st := _) (c_Md_refuse hn) k_Md_refuse l_Md_295 (by decide +kernel) (by omega) rfl rfl rfl rfl (Nat.le_of_ble_eq_true rfl) (by decide) ⟨by decide, by decide⟩ ?_
    rintro a9 σ9 ⟨ea9, hσ9⟩
    obtain rfl := ea9.symm
    subst hσ9
    refine g_retI (by decide +kernel) rfl (Or.inl rfl) ⟨by decide, by decide⟩ ?_
    exact zRM.ref f0 (if_pos h15) (by decide)
