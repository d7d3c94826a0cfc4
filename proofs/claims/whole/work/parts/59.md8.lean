/-- rows 202 to 206 change in slot s alone -/
def zRs2 (σ τ : zSt) (s : Nat) : Prop := (∀ a, (a < 202 ∨ 206 < a) → τ a = σ a) ∧ ∀ a, 202 ≤ a → a ≤ 206 → ∀ j, (j < 12 * s ∨ 12 * s + 12 ≤ j) → τ a j = σ a j
theorem zRs2.rf (σ : zSt) (s : Nat) : zRs2 σ σ s := ⟨fun _ _ => rfl, fun _ _ _ _ _ => rfl⟩
theorem zRs2.tr {σ τ υ : zSt} {s k : Nat} (h : zRs2 σ τ s) (g : zRk τ υ (12 * s + k)) (hk : k < 12) : zRs2 σ υ s := ⟨fun a ha => (g.1 a ha).trans (h.1 a ha), fun a a1 a2 j hj => (g.2 a a1 a2 j (by omega)).trans (h.2 a a1 a2 j hj)⟩
theorem zRs2.o2 {σ τ S : zSt} {s p : Nat} {t : Int} (h : zRs2 σ τ s) (hp : p ≠ s) {K : Nat} (hK : K ≤ 12) (g : zSo2 σ S p t K) : zSo2 τ S p t K := fun k hk => by
  have a := g k hk
  have q : 12 * p + k < 12 * s ∨ 12 * s + 12 ≤ 12 * p + k := by omega
  rw [h.2 202 (by decide) (by decide) _ q, h.2 203 (by decide) (by decide) _ q, h.2 204 (by decide) (by decide) _ q, h.2 205 (by decide) (by decide) _ q, h.2 206 (by decide) (by decide) _ q]
  exact a
theorem zLdA.moved {σ τ S : zSt} (h : zLdA σ S) (e1 : τ 191 = σ 191) (e2 : τ 192 = σ 192) (e3 : τ 193 = σ 193) (e4 : τ 194 = σ 194) : zLdA τ S := by unfold zLdA; rw [e1, e2, e3, e4]; exact h
theorem zSx.slot {σ τ S : zSt} {s : Nat} {t : Int} {i : Nat} (hx : zSx σ S s t 0) (hne : ∀ i, i < (S 0 8).toNat → S 9 (zpr S i) < t → i ≠ s) (h : zRs2 σ τ s) (g : zSo2 τ S s t i) (hi : i ≤ zN S) : zSx τ S s t i := by
  obtain ⟨hM, ⟨hS, hL⟩, hO, hP, hR, hs8, hKN⟩ := hx
  have hN := hS.N
  have hz : zN S = (S 0 0).toNat := rfl
  exact ⟨hM, ⟨hS.moved (h.1 190 (by omega)), hL.moved (h.1 _ (by omega)) (h.1 _ (by omega)) (h.1 _ (by omega)) (h.1 _ (by omega))⟩, fun i hi => by rw [h.1 207 (by omega)]; exact hO i hi, fun i hi ht => h.o2 (hne i hi ht) (by omega) (hP i hi ht), g, hs8, hi⟩
theorem w_Md_laysSlot {G : zG} {X : zX} {n : Nat} {σ : zSt} {S : zSt} {s : Nat} {t : Int} (hn : 220 ≤ n) (hx : zSx σ S s t 0) (hne : ∀ i, i < (S 0 8).toNat → S 9 (zpr S i) < t → i ≠ s) (ht : 0 ≤ t ∧ t ≤ 1999)  : ∀ (m : Nat) (i : Nat) (x3 : Int) (L4 : List (Nat × Value)) (τ : zSt), x3 = (i : Int) → zRs2 σ τ s → zSo2 τ S s t i → (L4 = [] ∨ ∃ v, L4 = [(4, vi v)]) → i ≤ zN S → zN S < i + m → Go G X m_Md_laysSlot (16, 0, 0, 0, 0) n SH τ 2 ([(0, vr G 189), (1, vi (s : Int)), (2, vi t), (3, vi x3)] ++ L4) [] (zV n SH (fun σ' => zRs2 σ σ' s ∧ zSo2 σ' S s t (zN S))) := by
  intro m
  induction m with
  | zero => intro i x3 L4 τ e3 hr ho2 h4 hi hm; exact absurd hm (by omega)
  | succ m ih =>
    intro i x3 L4 τ e3 hr ho2 h4 hi hm
    obtain ⟨hM, ⟨hS, hL⟩, hO, hP, hR, hs8, hKN⟩ := id hx
    have e0 := hS.n
    have e8 := hS.p
    have hN := hS.N
    have hz : zN S = (S 0 0).toNat := rfl
    obtain ⟨d, r, hv⟩ := hM.1.1
    have hT : zMc τ S := hS.moved (hr.1 190 (by omega))
    have et := hT.n
    refine g_less [0, 1, 2, 3] (L' := [(0, vr G 189), (1, vi (s : Int)), (2, vi t), (3, vi x3)]) (by rcases h4 with rfl | ⟨v, rfl⟩ <;> rfl) ?_
    subst e3
    refine g_iload_n (i := 3) (by decide +kernel) rfl ?_
    refine g_aload_n (i := 0) (by decide +kernel) rfl ?_
    refine g_cVI (st := _) (c_Md_clips hn) k_Md_clips l_Md_148 (by decide +kernel) (by omega) rfl rfl rfl rfl (Nat.le_of_ble_eq_true rfl) (by decide) ⟨by decide, by decide⟩ ?_
    rintro a0 σ9 ⟨ea0, hσ9⟩
    obtain rfl := hσ9.symm
    subst ea0
    refine g_icmp_ge (off := 138) (tgt := 145) (by decide +kernel) (by decide) ⟨by omega, by omega⟩ ⟨by omega, by omega⟩ (fun h7 => ?_) (fun h7 => ?_)
    · refine g_retV (by decide +kernel) rfl ⟨by decide, by decide⟩ ?_
      rw [show i = zN S by omega] at ho2
      exact ⟨hr, ho2⟩
    · have ki : i < zN S := by omega
      have ka := hT.ar ki
      have tk := hv.2.1 i ki
      refine g_aload_n (i := 0) (by decide +kernel) rfl ?_
      refine g_iload_n (i := 3) (by decide +kernel) rfl ?_
      refine g_cVI (st := _) (c_Md_around (k := i) hn (by omega)) k_Md_around l_Md_169 (by decide +kernel) (by omega) rfl rfl rfl rfl (Nat.le_of_ble_eq_true rfl) (by decide) ⟨by decide, by decide⟩ ?_
      rintro a9 σ9 ⟨ea9, hσ9⟩
      obtain rfl := hσ9.symm
      rw [ka] at ea9
      subst ea9
      refine g_istore (i := 4) (L' := [(0, _), (1, _), (2, _), (3, _), (4, _)]) (by decide +kernel) rfl rfl ?_
      refine g_aload_n (i := 0) (by decide +kernel) rfl ?_
      refine g_getr f_Md_88 (by decide +kernel) (by omega) rfl rfl ?_
      refine g_bipush (a := 12) (by decide +kernel) (by decide) ?_
      refine g_iload_n (i := 1) (by decide +kernel) rfl ?_
      refine g_imul (by decide +kernel) ?_
      refine g_iload_n (i := 3) (by decide +kernel) rfl ?_
      refine g_iadd (by decide +kernel) ?_
      refine g_iconst (a := 0) (by decide +kernel) ?_
      refine g_iast (j := ((12 * s) + i)) (by decide +kernel) (by omega) rfl (by omega) (by omega) (by decide) ?_
      refine g_aload_n (i := 0) (by decide +kernel) rfl ?_
      refine g_getr f_Md_100 (by decide +kernel) (by omega) rfl rfl ?_
      refine g_bipush (a := 12) (by decide +kernel) (by decide) ?_
      refine g_iload_n (i := 1) (by decide +kernel) rfl ?_
      refine g_imul (by decide +kernel) ?_
      refine g_iload_n (i := 3) (by decide +kernel) rfl ?_
      refine g_iadd (by decide +kernel) ?_
      refine g_iconst (a := 0) (by decide +kernel) ?_
      refine g_iast (j := ((12 * s) + i)) (by decide +kernel) (by omega) rfl (by omega) (by omega) (by decide) ?_
      refine g_aload_n (i := 0) (by decide +kernel) rfl ?_
      refine g_getr f_Md_94 (by decide +kernel) (by omega) rfl rfl ?_
      refine g_bipush (a := 12) (by decide +kernel) (by decide) ?_
      refine g_iload_n (i := 1) (by decide +kernel) rfl ?_
      refine g_imul (by decide +kernel) ?_
      refine g_iload_n (i := 3) (by decide +kernel) rfl ?_
      refine g_iadd (by decide +kernel) ?_
      refine g_ldc2 (x := 347) (a := -1) (by decide +kernel) c_Md_347 (by decide) ?_
      refine g_last (j := ((12 * s) + i)) (by decide +kernel) (by omega) rfl (by omega) (by omega) (by decide) ?_
      refine g_aload_n (i := 0) (by decide +kernel) rfl ?_
      refine g_getr f_Md_91 (by decide +kernel) (by omega) rfl rfl ?_
      refine g_bipush (a := 12) (by decide +kernel) (by decide) ?_
      refine g_iload_n (i := 1) (by decide +kernel) rfl ?_
      refine g_imul (by decide +kernel) ?_
      refine g_iload_n (i := 3) (by decide +kernel) rfl ?_
      refine g_iadd (by decide +kernel) ?_
      refine g_ldc2 (x := 347) (a := -1) (by decide +kernel) c_Md_347 (by decide) ?_
      refine g_last (j := ((12 * s) + i)) (by decide +kernel) (by omega) rfl (by omega) (by omega) (by decide) ?_
      refine g_aload_n (i := 0) (by decide +kernel) rfl ?_
      refine g_getr f_Md_97 (by decide +kernel) (by omega) rfl rfl ?_
      refine g_bipush (a := 12) (by decide +kernel) (by decide) ?_
      refine g_iload_n (i := 1) (by decide +kernel) rfl ?_
      refine g_imul (by decide +kernel) ?_
      refine g_iload_n (i := 3) (by decide +kernel) rfl ?_
      refine g_iadd (by decide +kernel) ?_
      refine g_ldc2 (x := 347) (a := -1) (by decide +kernel) c_Md_347 (by decide) ?_
      refine g_last (j := ((12 * s) + i)) (by decide +kernel) (by omega) rfl (by omega) (by omega) (by decide) ?_
      obtain ⟨υ, eυ⟩ : ∃ υ, υ = zs (zs (zs (zs (zs τ 202 (12 * s + i) 0) 206 (12 * s + i) 0) 204 (12 * s + i) (-1)) 203 (12 * s + i) (-1)) 205 (12 * s + i) (-1) := ⟨_, rfl⟩
      rw [← eυ]
      have gk : zRk τ υ (12 * s + i) := by rw [eυ]; exact (((((zRk.rf _ _).put (by decide) (by decide)).put (by decide) (by decide)).put (by decide) (by decide)).put (by decide) (by decide)).put (by decide) (by decide)
      have gυ : zRs2 σ υ s := hr.tr gk (by omega)
      have gi : zSo2 υ S s t i := fun j hj => by
        have a := ho2 j hj
        have q : 12 * s + j ≠ 12 * s + i := by omega
        rw [gk.2 202 (by decide) (by decide) _ q, gk.2 203 (by decide) (by decide) _ q, gk.2 204 (by decide) (by decide) _ q, gk.2 205 (by decide) (by decide) _ q, gk.2 206 (by decide) (by decide) _ q]
        exact a
      have xυ := hx.slot hne gυ gi (by omega)
      have hp : υ 203 (12 * s + i) = -1 ∧ υ 204 (12 * s + i) = -1 ∧ υ 206 (12 * s + i) = 0 ∧ υ 202 (12 * s + i) = 0 ∧ υ 205 (12 * s + i) = -1 := by
        rw [eυ]
        refine ⟨?_, ?_, ?_, ?_, ?_⟩ <;> simp [zs_app, zu_app]
      refine g_iload (i := 4) (by decide +kernel) rfl ?_
      refine g_if_ge (off := 15) (tgt := 100) (by decide +kernel) (by decide) ⟨by omega, by omega⟩ (fun h85 => ?_) (fun h85 => ?_)
      · obtain ⟨o, eo⟩ := Int.eq_ofNat_of_zero_le (show 0 ≤ S 2 i by omega)
        have eo2 : (S 2 i).toNat = o := by omega
        have c9 := gi o (by omega)
        have st9 := zv_st (t := t) hM (show o < zN S by omega)
        refine g_aload_n (i := 0) (by decide +kernel) rfl ?_
        refine g_getr f_Md_88 (by decide +kernel) (by omega) rfl rfl ?_
        refine g_bipush (a := 12) (by decide +kernel) (by decide) ?_
        refine g_iload_n (i := 1) (by decide +kernel) rfl ?_
        refine g_imul (by decide +kernel) ?_
        refine g_iload (i := 4) (by decide +kernel) rfl ?_
        refine g_iadd (by decide +kernel) ?_
        refine g_iald (j := (12 * s + o)) (by decide +kernel) (by omega) rfl (by omega) (by omega) (by decide) ?_
        rw [c9.1]
        refine g_iconst (a := 2) (by decide +kernel) ?_
        refine g_iconst (a := 3) (by decide +kernel) ?_
        refine g_cSI (st := _) (c_Md_isIn ⟨by omega, by omega⟩ ⟨by omega, by omega⟩ ⟨by omega, by omega⟩) k_Md_isIn l_Md_152 (by decide +kernel) rfl rfl (Nat.le_of_ble_eq_true rfl) (by decide) ⟨by decide, by decide⟩ ?_
        rintro a9 σ9 ⟨ea9, hσ9⟩
        obtain rfl := hσ9.symm
        subst ea9
        refine g_if_eq (off := 22) (tgt := 139) (by decide +kernel) (by decide) zbr (fun h117 => ?_) (fun h117 => ?_)
        · have h117 := zb0.mp h117
          refine g_iinc (i := 3) (b := 1) (L' := [(0, _), (1, _), (2, _), (3, _), (4, _)]) (by decide +kernel) rfl rfl rfl ?_
          refine g_goto (off := -140) (tgt := 2) (by decide +kernel) (by decide) ?_
          first
            | (refine ih (i + 1) _ [(4, vi (S 2 i))] _ (by push_cast; rfl) (gυ.tr hq9.1 (by omega)) (fun j hj => ?_) (Or.inr ⟨_, rfl⟩) (by omega) (by omega)
               rcases Nat.lt_or_ge j i with z | z
               · have a := gi j z
                 have q : 12 * s + j ≠ 12 * s + i := by omega
                 rw [hq9.1.2 202 (by decide) (by decide) _ q, hq9.1.2 203 (by decide) (by decide) _ q, hq9.1.2 204 (by decide) (by decide) _ q, hq9.1.2 205 (by decide) (by decide) _ q, hq9.1.2 206 (by decide) (by decide) _ q]
                 exact a
               · rw [show j = i by omega]; exact hq9.2)
            | (refine ih (i + 1) _ [(4, vi (S 2 i))] _ (by push_cast; rfl) gυ (fun j hj => ?_) (Or.inr ⟨_, rfl⟩) (by omega) (by omega)
               rcases Nat.lt_or_ge j i with z | z
               · exact gi j z
               · rw [show j = i by omega]
                 have of : zOfA S (zv S t) i := ⟨by omega, by rw [eo2]; omega⟩
                 have E := zv_eqs hM t ki
                 obtain ⟨E1, E5, E2, E3, E4, E6⟩ := E
                 rw [if_pos of] at E1
                 have nn := zv_no (t := t) hM ki (by omega)
                 rw [if_pos E1] at E4
                 rw [hp.1, hp.2.1, hp.2.2.1, hp.2.2.2.1, hp.2.2.2.2, E1, nn.1, nn.2.1, nn.2.2, E4]
                 exact ⟨rfl, rfl, rfl, rfl, rfl⟩)
        · have h117 := zb1.mp h117
          refine g_aload_n (i := 0) (by decide +kernel) rfl ?_
          refine g_iload_n (i := 1) (by decide +kernel) rfl ?_
          refine g_iload_n (i := 3) (by decide +kernel) rfl ?_
          refine g_aload_n (i := 0) (by decide +kernel) rfl ?_
          refine g_getr f_Md_91 (by decide +kernel) (by omega) rfl rfl ?_
          refine g_bipush (a := 12) (by decide +kernel) (by decide) ?_
          refine g_iload_n (i := 1) (by decide +kernel) rfl ?_
          refine g_imul (by decide +kernel) ?_
          refine g_iload (i := 4) (by decide +kernel) rfl ?_
          refine g_iadd (by decide +kernel) ?_
          refine g_lald (j := (12 * s + o)) (by decide +kernel) (by omega) rfl (by omega) (by omega) (by decide) ?_
          refine g_iload_n (i := 2) (by decide +kernel) rfl ?_
          rw [show vl (υ 203 (12 * s + o)) = vl (zTaA S t (zv S t) i) by unfold zTaA; rw [if_neg (by omega), eo2, c9.2.1]]
          refine g_cVV (st := _) (c_Md_laysClip (s := s) (k := i) (t := t) hn xυ ki ht (fun y => y.2 (by rw [eo2]; omega)) ⟨hp.1, hp.2.1, hp.2.2.1⟩) k_Md_laysClip l_Md_365 (by decide +kernel) (by omega) rfl rfl rfl rfl (Nat.le_of_ble_eq_true rfl) (by decide) ⟨by decide, by decide⟩ ?_
          rintro σ9 hq9
          refine g_iinc (i := 3) (b := 1) (L' := [(0, _), (1, _), (2, _), (3, _), (4, _)]) (by decide +kernel) rfl rfl rfl ?_
          refine g_goto (off := -140) (tgt := 2) (by decide +kernel) (by decide) ?_
          first
            | (refine ih (i + 1) _ [(4, vi (S 2 i))] _ (by push_cast; rfl) (gυ.tr hq9.1 (by omega)) (fun j hj => ?_) (Or.inr ⟨_, rfl⟩) (by omega) (by omega)
               rcases Nat.lt_or_ge j i with z | z
               · have a := gi j z
                 have q : 12 * s + j ≠ 12 * s + i := by omega
                 rw [hq9.1.2 202 (by decide) (by decide) _ q, hq9.1.2 203 (by decide) (by decide) _ q, hq9.1.2 204 (by decide) (by decide) _ q, hq9.1.2 205 (by decide) (by decide) _ q, hq9.1.2 206 (by decide) (by decide) _ q]
                 exact a
               · rw [show j = i by omega]; exact hq9.2)
            | (refine ih (i + 1) _ [(4, vi (S 2 i))] _ (by push_cast; rfl) gυ (fun j hj => ?_) (Or.inr ⟨_, rfl⟩) (by omega) (by omega)
               rcases Nat.lt_or_ge j i with z | z
               · exact gi j z
               · rw [show j = i by omega]
                 have of : zOfA S (zv S t) i := ⟨by omega, by rw [eo2]; omega⟩
                 have E := zv_eqs hM t ki
                 obtain ⟨E1, E5, E2, E3, E4, E6⟩ := E
                 rw [if_pos of] at E1
                 have nn := zv_no (t := t) hM ki (by omega)
                 rw [if_pos E1] at E4
                 rw [hp.1, hp.2.1, hp.2.2.1, hp.2.2.2.1, hp.2.2.2.2, E1, nn.1, nn.2.1, nn.2.2, E4]
                 exact ⟨rfl, rfl, rfl, rfl, rfl⟩)
      · refine g_aload_n (i := 0) (by decide +kernel) rfl ?_
        refine g_iload_n (i := 1) (by decide +kernel) rfl ?_
        refine g_iload_n (i := 3) (by decide +kernel) rfl ?_
        refine g_iload_n (i := 2) (by decide +kernel) rfl ?_
        refine g_i2l (by decide +kernel) ⟨by omega, by omega⟩ ?_
        refine g_iload_n (i := 2) (by decide +kernel) rfl ?_
        rw [show vl t = vl (zTaA S t (zv S t) i) by unfold zTaA; rw [if_pos (by omega)]]
        refine g_cVV (st := _) (c_Md_laysClip (s := s) (k := i) (t := t) hn xυ ki ht (fun y => by have := y.1; omega) ⟨hp.1, hp.2.1, hp.2.2.1⟩) k_Md_laysClip l_Md_365 (by decide +kernel) (by omega) rfl rfl rfl rfl (Nat.le_of_ble_eq_true rfl) (by decide) ⟨by decide, by decide⟩ ?_
        rintro σ9 hq9
        refine g_goto (off := 42) (tgt := 139) (by decide +kernel) (by decide) ?_
        refine g_iinc (i := 3) (b := 1) (L' := [(0, _), (1, _), (2, _), (3, _), (4, _)]) (by decide +kernel) rfl rfl rfl ?_
        refine g_goto (off := -140) (tgt := 2) (by decide +kernel) (by decide) ?_
        first
          | (refine ih (i + 1) _ [(4, vi (S 2 i))] _ (by push_cast; rfl) (gυ.tr hq9.1 (by omega)) (fun j hj => ?_) (Or.inr ⟨_, rfl⟩) (by omega) (by omega)
             rcases Nat.lt_or_ge j i with z | z
             · have a := gi j z
               have q : 12 * s + j ≠ 12 * s + i := by omega
               rw [hq9.1.2 202 (by decide) (by decide) _ q, hq9.1.2 203 (by decide) (by decide) _ q, hq9.1.2 204 (by decide) (by decide) _ q, hq9.1.2 205 (by decide) (by decide) _ q, hq9.1.2 206 (by decide) (by decide) _ q]
               exact a
             · rw [show j = i by omega]; exact hq9.2)
          | (refine ih (i + 1) _ [(4, vi (S 2 i))] _ (by push_cast; rfl) gυ (fun j hj => ?_) (Or.inr ⟨_, rfl⟩) (by omega) (by omega)
             rcases Nat.lt_or_ge j i with z | z
             · exact gi j z
             · rw [show j = i by omega]
               have of : zOfA S (zv S t) i := ⟨by omega, by rw [eo2]; omega⟩
               have E := zv_eqs hM t ki
               obtain ⟨E1, E5, E2, E3, E4, E6⟩ := E
               rw [if_pos of] at E1
               have nn := zv_no (t := t) hM ki (by omega)
               rw [if_pos E1] at E4
               rw [hp.1, hp.2.1, hp.2.2.1, hp.2.2.2.1, hp.2.2.2.2, E1, nn.1, nn.2.1, nn.2.2, E4]
               exact ⟨rfl, rfl, rfl, rfl, rfl⟩)
theorem c_Md_laysSlot {G : zG} {n : Nat} {σ : zSt} {S : zSt} {s : Nat} {t : Int} (hn : 220 ≤ n) (hx : zSx σ S s t 0) (hne : ∀ i, i < (S 0 8).toNat → S 9 (zpr S i) < t → i ≠ s) (ht : 0 ≤ t ∧ t ≤ 1999)  : Gm G y_Md_laysSlot m_Md_laysSlot 16 0 0 [vr G 189, vi (s : Int), vi t] n SH σ (zV n SH (fun σ' => zRs2 σ σ' s ∧ zSo2 σ' S s t (zN S))) := by
  refine g_enter (L := [(0, _), (1, _), (2, _)]) (by decide) rfl rfl rfl (Nat.le_of_ble_eq_true rfl) (fun X => ?_)
  refine g_iconst (a := 0) (by decide +kernel) ?_
  refine g_istore_n (i := 3) (L' := [(0, _), (1, _), (2, _), (3, _)]) (by decide +kernel) rfl rfl ?_
  exact w_Md_laysSlot hn hx hne ht (zN S + 1) 0 _ [] σ rfl (zRs2.rf _ _) (fun j hj => by omega) (Or.inl rfl) (by omega) (by omega)
/-- all that is asked of the presses is laid -/
def zPd (σ S : zSt) : Prop := zMz S ∧ zMc σ S ∧ zLdA σ S ∧ (∀ i, i < (S 0 8).toNat → σ 207 i = zord (S 9) (S 0 8).toNat i) ∧ ∀ i, i < (S 0 8).toNat → zSo2 σ S i (S 9 (zpr S i)) (zN S)
theorem zPd.x {σ S : zSt} (h : zPd σ S) {s : Nat} (hs : s < 8) (t : Int) : zSx σ S s t 0 := ⟨h.1, ⟨h.2.1, h.2.2.1⟩, h.2.2.2.1, fun i hi _ => h.2.2.2.2 i hi, fun k hk => by omega, hs, Nat.zero_le _⟩
theorem zPd.slot {σ τ S : zSt} (h : zPd σ S) {s : Nat} (hs : 6 ≤ s) (g : zRs2 σ τ s) : zPd τ S := by
  obtain ⟨hM, hS, hL, hO, hP⟩ := h
  have hN := hS.N
  have hz : zN S = (S 0 0).toNat := rfl
  exact ⟨hM, hS.moved (g.1 190 (by omega)), hL.moved (g.1 _ (by omega)) (g.1 _ (by omega)) (g.1 _ (by omega)) (g.1 _ (by omega)), fun i hi => by rw [g.1 207 (by omega)]; exact hO i hi, fun i hi => g.o2 (by omega) (by omega) (hP i hi)⟩
def zMf2 (σ τ : zSt) : Prop := ∀ a, (a < 191 ∨ (195 < a ∧ a < 202) ∨ 207 < a) → τ a = σ a
theorem w_Md_laysPresses {G : zG} {X : zX} {n : Nat} {σ : zSt} {S : zSt} (hn : 220 ≤ n) (hM : zMz S) (hS : zMc σ S)  : ∀ (m : Nat) (i : Nat) (x1 : Int) (τ : zSt), x1 = (i : Int) → zMf2 σ τ → zLdA τ S → (∀ i, i < (S 0 8).toNat → τ 207 i = zord (S 9) (S 0 8).toNat i) → (∀ j, j < i → zSo2 τ S j (S 9 (zpr S j)) (zN S)) → i ≤ (S 0 8).toNat → (S 0 8).toNat < i + m → Go G X m_Md_laysPresses (17, 0, 0, 0, 0) n SH τ 10 [(0, vr G 189), (1, vi x1)] [] (zV n SH (fun σ' => zMf2 σ σ' ∧ zPd σ' S)) := by
  intro m
  induction m with
  | zero => intro i x1 τ e1 hf hl ho hp hi hm; exact absurd hm (by omega)
  | succ m ih =>
    intro i x1 τ e1 hf hl ho hp hi hm
    have e0 := hS.n
    have e8 := hS.p
    have hN := hS.N
    have hz : zN S = (S 0 0).toNat := rfl
    have hT : zMc τ S := hS.moved (hf 190 (by omega))
    have et := hT.p
    subst e1
    refine g_iload_n (i := 1) (by decide +kernel) rfl ?_
    refine g_aload_n (i := 0) (by decide +kernel) rfl ?_
    refine g_getr f_Md_7 (by decide +kernel) (by omega) rfl rfl ?_
    refine g_iconst (a := 1) (by decide +kernel) ?_
    refine g_iald (j := 1) (by decide +kernel) (by omega) rfl (by omega) (by omega) (by decide) ?_
    refine g_icmp_ge (off := 29) (tgt := 46) (by decide +kernel) (by decide) ⟨by omega, by omega⟩ ⟨by omega, by omega⟩ (fun h17 => ?_) (fun h17 => ?_)
    · refine g_retV (by decide +kernel) rfl ⟨by decide, by decide⟩ ?_
      rw [show i = (S 0 8).toNat by omega] at hp
      exact ⟨hf, hM, hT, hl, ho, hp⟩
    · obtain ⟨q, eq⟩ : ∃ q, q = zpr S i := ⟨_, rfl⟩
      have hi2 : i < (S 0 8).toNat := by omega
      have hq : q < (S 0 8).toNat := by rw [eq]; exact zpr_lt S hi2
      have zo := zord_in (S 9) (S 0 8).toNat i hi2
      have eo : τ 207 i = (q : Int) := by rw [ho i hi2, eq]; unfold zpr; omega
      have q1 := hT.tm hq
      have q3 := hS.pr (show q < 6 by omega)
      have lt : ∀ j, j < (S 0 8).toNat → S 9 (zpr S j) < S 9 q → j < i := fun j hj h => by
        rcases Nat.lt_or_ge j i with z | z
        · exact z
        · rcases Nat.lt_or_ge i j with y | y
          · have := zord_sorted (S 9) (S 0 8).toNat i j y hj
            rw [eq] at h
            unfold zpr at h
            omega
          · rw [show j = i by omega, ← eq] at h
            omega
      have xx : zSx τ S i (S 9 q) 0 := ⟨hM, ⟨hT, hl⟩, ho, fun j hj h => hp j (lt j hj h), fun k hk => by omega, by omega, Nat.zero_le _⟩
      refine g_aload_n (i := 0) (by decide +kernel) rfl ?_
      refine g_iload_n (i := 1) (by decide +kernel) rfl ?_
      refine g_aload_n (i := 0) (by decide +kernel) rfl ?_
      refine g_getr f_Md_7 (by decide +kernel) (by omega) rfl rfl ?_
      refine g_sipush (a := 188) (by decide +kernel) (by decide) ?_
      refine g_aload_n (i := 0) (by decide +kernel) rfl ?_
      refine g_getr f_Md_103 (by decide +kernel) (by omega) rfl rfl ?_
      refine g_iload_n (i := 1) (by decide +kernel) rfl ?_
      refine g_iald (j := i) (by decide +kernel) (by omega) rfl (by omega) (by omega) (by decide) ?_
      rw [eo]
      refine g_iadd (by decide +kernel) ?_
      refine g_iald (j := (188 + q)) (by decide +kernel) (by omega) rfl (by omega) (by omega) (by decide) ?_
      rw [q1]
      refine g_cVV (st := _) (c_Md_laysSlot (s := i) (t := S 9 q) hn xx (fun j hj h => by have := lt j hj h; omega) q3.2) k_Md_laysSlot l_Md_372 (by decide +kernel) (by omega) rfl rfl rfl rfl (Nat.le_of_ble_eq_true rfl) (by decide) ⟨by decide, by decide⟩ ?_
      rintro σ9 ⟨hr9, ho9⟩
      refine g_iinc (i := 1) (b := 1) (L' := [(0, _), (1, _)]) (by decide +kernel) rfl rfl rfl ?_
      refine g_goto (off := -33) (tgt := 10) (by decide +kernel) (by decide) ?_
      refine ih (i + 1) _ _ (by push_cast; rfl) (fun a ha => by rw [hr9.1 a (by omega)]; exact hf a ha) (hl.moved (hr9.1 _ (by omega)) (hr9.1 _ (by omega)) (hr9.1 _ (by omega)) (hr9.1 _ (by omega))) (fun j hj => by rw [hr9.1 207 (by omega)]; exact ho j hj) (fun j hj => ?_) (by omega) (by omega)
      rcases Nat.lt_or_ge j i with z | z
      · exact hr9.o2 (by omega) (by omega) (hp j z)
      · rw [show j = i by omega, ← eq]; exact ho9
theorem c_Md_laysPresses {G : zG} {n : Nat} {σ : zSt} {S : zSt} (hn : 220 ≤ n) (hM : zMz S) (hS : zMc σ S)  : Gm G y_Md_laysPresses m_Md_laysPresses 17 0 0 [vr G 189] n SH σ (zV n SH (fun σ' => zMf2 σ σ' ∧ zPd σ' S)) := by
  refine g_enter (L := [(0, _)]) (by decide) rfl rfl rfl (Nat.le_of_ble_eq_true rfl) (fun X => ?_)
  refine g_aload_n (i := 0) (by decide +kernel) rfl ?_
  refine g_cVV (st := _) (c_Md_laysAll hn hS) k_Md_laysAll l_Md_195 (by decide +kernel) (by omega) rfl rfl rfl rfl (Nat.le_of_ble_eq_true rfl) (by decide) ⟨by decide, by decide⟩ ?_
  rintro τ ⟨hf, hl⟩
  refine g_aload_n (i := 0) (by decide +kernel) rfl ?_
  refine g_cVV (st := _) (c_Md_sortsPresses hn (hS.moved (hf 190 (by omega)))) k_Md_sortsPresses l_Md_369 (by decide +kernel) (by omega) rfl rfl rfl rfl (Nat.le_of_ble_eq_true rfl) (by decide) ⟨by decide, by decide⟩ ?_
  rintro υ ⟨gf, go⟩
  refine g_iconst (a := 0) (by decide +kernel) ?_
  refine g_istore_n (i := 1) (L' := [(0, _), (1, _)]) (by decide +kernel) rfl rfl ?_
  exact w_Md_laysPresses hn hM hS ((S 0 8).toNat + 1) 0 _ υ rfl (fun a ha => by rw [gf a (by omega)]; exact hf a (by omega)) (hl.moved (gf _ (by decide)) (gf _ (by decide)) (gf _ (by decide)) (gf _ (by decide))) go (fun j hj => by omega) (by omega) (by omega)
