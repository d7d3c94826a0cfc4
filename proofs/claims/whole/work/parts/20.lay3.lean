/-- what is laid one behind the other within q, at places below p -/
def zLE (σ τ : zSt) (b c q p : Nat) : Prop := (∀ a, a ≠ c + 3 → a ≠ c + 4 → a ≠ c + 5 → τ a = σ a) ∧
  (∀ j, (j < (σ b 0).toNat ∧ σ (b + 2) j = q ∧ σ (b + 3) j < p) → τ (c + 3) j = zEn (zSv σ b) (σ (c + 2)) q (σ (b + 3) j).toNat + σ (b + 6) j ∧ τ (c + 4) j = (j : Int) ∧ τ (c + 5) j = 0) ∧
  (∀ j, ¬ (j < (σ b 0).toNat ∧ σ (b + 2) j = q ∧ σ (b + 3) j < p) → τ (c + 3) j = σ (c + 3) j ∧ τ (c + 4) j = σ (c + 4) j ∧ τ (c + 5) j = σ (c + 5) j)
theorem zLE_in {σ τ : zSt} {b c q i : Nat} (h : zLE σ τ b c q i) (hbc : c + 6 ≤ b ∨ b + 10 ≤ c) : (∀ r, r < 10 → τ (b + r) = σ (b + r)) ∧ τ (c + 2) = σ (c + 2) ∧ τ (c + 1) = σ (c + 1) := ⟨fun r hr => h.1 _ (by omega) (by omega) (by omega), h.1 _ (by omega) (by omega) (by omega), h.1 _ (by omega) (by omega) (by omega)⟩
theorem zLE_step {σ τ : zSt} {b c q p k : Nat} {v : Int} (h : zLE σ τ b c q p) (hk : k < (σ b 0).toNat ∧ σ (b + 2) k = q ∧ σ (b + 3) k = p) (hu : ∀ j, j < (σ b 0).toNat → σ (b + 2) j = q → σ (b + 3) j = p → j = k) (hv : v = zEn (zSv σ b) (σ (c + 2)) q p + σ (b + 6) k) : zLE σ (zs (zs (zs τ (c + 4) k k) (c + 5) k 0) (c + 3) k v) b c q (p + 1) := by
  obtain ⟨h1, h2, h3⟩ := h
  refine ⟨fun a a3 a4 a5 => by rw [zs_other a3, zs_other a5, zs_other a4]; exact h1 a a3 a4 a5, fun j hj => ?_, fun j hj => ?_⟩
  · by_cases e : j = k
    · subst e
      have e3 : (σ (b + 3) j).toNat = p := by omega
      rw [e3]
      simp [zs_app, zu_app, hv]
    · have := h2 j ⟨hj.1, hj.2.1, by
        have := hj.2.2
        have hne : ¬ σ (b + 3) j = (p : Int) := fun z => e (hu j hj.1 hj.2.1 z)
        omega⟩
      simpa [zs_app, zu_app, e] using this
  · have e : j ≠ k := fun e => hj (by subst e; exact ⟨hk.1, hk.2.1, by omega⟩)
    have := h3 j (fun z => hj ⟨z.1, z.2.1, by omega⟩)
    simpa [zs_app, zu_app, e] using this
theorem zEn_rest {S : zSt} {ac : Nat → Int} {q p : Nat} (h : ∀ p', p ≤ p' → zch S q (p' : Int) = -1) : ∀ d, zEn S ac q (p + d) = zEn S ac q p
  | 0 => rfl
  | d + 1 => by rw [← Nat.add_assoc, zEn_s, if_pos (h _ (by omega)), zEn_rest h d]
theorem w_La_layOneBehindTheOther {G : zG} {X : zX} {n : Nat} {σ : zSt} {b c : Nat} (hn : 189 ≤ n) (hL : zLa SH c) (hS : zSw SH b) (hg : zGood σ b) (hbc : c + 6 ≤ b ∨ b + 10 ≤ c) {q : Nat} (hq : q < 12) (hpl : ∀ j, j < (σ b 0).toNat → σ (b + 2) j = q → 0 ≤ σ (b + 3) j ∧ σ (b + 3) j < 12 ∧ zch (zSv σ b) q (σ (b + 3) j) = j) (hcs : ∀ p p' : Nat, p ≤ p' → zch (zSv σ b) q p = -1 → zch (zSv σ b) q p' = -1) : ∀ (m : Nat) (p : Nat) (x3 x4 x5 : Int) (τ : zSt), x5 = (p : Int) + 1 → x4 = zch (zSv σ b) q p → x3 = zEn (zSv σ b) (σ (c + 2)) q p → zLE σ τ b c q p → p ≤ 12 → 12 < p + m → Go G X m_La_layOneBehindTheOther (1, 0, 0, 0, 0) n SH τ 13 [(0, vr G c), (1, vr G b), (2, vi (q : Int)), (3, vi x3), (4, vi x4), (5, vi x5)] [] (zI n SH (fun a σ' => a = zEn (zSv σ b) (σ (c + 2)) q 12 ∧ zLE σ σ' b c q 12)) := by
  intro m
  induction m with
  | zero => intro p x3 x4 x5 τ e5 e4 e3 ht hi hm; exact absurd hm (by omega)
  | succ m ih =>
    intro p x3 x4 x5 τ e5 e4 e3 ht hi hm
    have hb := hS.1
    have hcc := hL.1
    have hc := hg.1
    obtain ⟨u1, u2, u3⟩ := zLE_in ht hbc
    have tg := zGood_eq u1 hg
    have s0 : τ b 0 = σ b 0 := by rw [show τ b = σ b from u1 0 (by decide)]
    have rg : -1 ≤ zch (zSv σ b) q p ∧ zch (zSv σ b) q p < zN (zSv σ b) := zfst_range
    have rn : (zN (zSv σ b) : Int) ≤ 12 := by show (((σ b 0).toNat : Nat) : Int) ≤ 12; omega
    have sp : (zch (zSv σ b) q p = -1 ∧ ∀ k, k < zN (zSv σ b) → decide (zSv σ b 2 k = (q : Int) ∧ zSv σ b 3 k = (p : Int)) = false) ∨ ∃ i : Nat, zch (zSv σ b) q p = (i : Int) ∧ i < zN (zSv σ b) ∧ decide (zSv σ b 2 i = (q : Int) ∧ zSv σ b 3 i = (p : Int)) = true ∧ ∀ k, k < i → decide (zSv σ b 2 k = (q : Int) ∧ zSv σ b 3 k = (p : Int)) = false := zfst_spec
    have es : zEn (zSv σ b) (σ (c + 2)) q (p + 1) = _ := zEn_s _ _ _ _
    refine g_iload (i := 5) (by decide +kernel) rfl ?_
    refine g_bipush (a := 12) (by decide +kernel) (by decide) ?_
    refine g_icmp_gt (off := 73) (tgt := 90) (by decide +kernel) (by decide) ⟨by omega, by omega⟩ ⟨by omega, by omega⟩ (fun h17 => ?_) (fun h17 => ?_)
    · refine g_iload_n (i := 3) (by decide +kernel) rfl ?_
      refine g_retI (by decide +kernel) rfl (Or.inl rfl) ⟨by decide, by decide⟩ ?_
      first
        | (have hz : x4 = -1 := h23
           have hall : ∀ p' : Nat, p ≤ p' → zch (zSv σ b) q (p' : Int) = -1 := fun p' h => hcs p p' h (by omega)
           refine ⟨by rw [e3, show 12 = p + (12 - p) by omega, zEn_rest hall], ht.1, fun j hj => ht.2.1 j ⟨hj.1, hj.2.1, ?_⟩, fun j hj => ht.2.2 j (fun z => hj ⟨z.1, z.2.1, by omega⟩)⟩
           have w1 := hpl j hj.1 hj.2.1
           by_cases z : σ (b + 3) j < p
           · exact z
           · have w2 := hall (σ (b + 3) j).toNat (by omega)
             rw [show (((σ (b + 3) j).toNat : Nat) : Int) = σ (b + 3) j by omega, w1.2.2] at w2
             omega)
        | (rw [show p = 12 by omega] at ht e3
           exact ⟨e3, ht⟩)
    · refine g_iload (i := 4) (by decide +kernel) rfl ?_
      refine g_iconst (a := -1) (by decide +kernel) ?_
      refine g_icmp_eq (off := 67) (tgt := 90) (by decide +kernel) (by decide) ⟨by omega, by omega⟩ ⟨by omega, by omega⟩ (fun h23 => ?_) (fun h23 => ?_)
      · refine g_iload_n (i := 3) (by decide +kernel) rfl ?_
        refine g_retI (by decide +kernel) rfl (Or.inl rfl) ⟨by decide, by decide⟩ ?_
        first
          | (have hz : x4 = -1 := h23
             have hall : ∀ p' : Nat, p ≤ p' → zch (zSv σ b) q (p' : Int) = -1 := fun p' h => hcs p p' h (by omega)
             refine ⟨by rw [e3, show 12 = p + (12 - p) by omega, zEn_rest hall], ht.1, fun j hj => ht.2.1 j ⟨hj.1, hj.2.1, ?_⟩, fun j hj => ht.2.2 j (fun z => hj ⟨z.1, z.2.1, by omega⟩)⟩
             have w1 := hpl j hj.1 hj.2.1
             by_cases z : σ (b + 3) j < p
             · exact z
             · have w2 := hall (σ (b + 3) j).toNat (by omega)
               rw [show (((σ (b + 3) j).toNat : Nat) : Int) = σ (b + 3) j by omega, w1.2.2] at w2
               omega)
          | (rw [show p = 12 by omega] at ht e3
             exact ⟨e3, ht⟩)
      · obtain ⟨k, ek, hkN, hkp, -⟩ := sp.resolve_left (fun z => by omega)
        have hkp : σ (b + 2) k = q ∧ σ (b + 3) k = p := of_decide_eq_true hkp
        have hkN : k < (σ b 0).toNat := hkN
        have hku : ∀ j, j < (σ b 0).toNat → σ (b + 2) j = q → σ (b + 3) j = p → j = k := fun j h1 h2 h3 => by
          have := (hpl j h1 h2).2.2
          rw [h3, ek] at this
          omega
        have st1 := zLE_step (v := x3 + τ (b + 6) k) ht ⟨hkN, hkp⟩ hku (by rw [e3, u1 6 (by decide)])
        have hx4 : x4 = (k : Int) := by omega
        subst hx4
        rw [if_neg (by omega), ek, Int.toNat_natCast, show zSv σ b 6 k = σ (b + 6) k from rfl] at es
        refine g_aload_n (i := 0) (by decide +kernel) rfl ?_
        refine g_getr f_La_21 (by decide +kernel) (by omega) hL.a0 rfl ?_
        refine g_iload (i := 4) (by decide +kernel) rfl ?_
        refine g_iload (i := 4) (by decide +kernel) rfl ?_
        refine g_iast (j := k) (by decide +kernel) (by omega) hL.a4 rfl (by omega) (by decide) ?_
        refine g_aload_n (i := 0) (by decide +kernel) rfl ?_
        refine g_getr f_La_24 (by decide +kernel) (by omega) hL.a0 rfl ?_
        refine g_iload (i := 4) (by decide +kernel) rfl ?_
        refine g_iconst (a := 0) (by decide +kernel) ?_
        refine g_zast (j := k) (by decide +kernel) (by omega) hL.a5 rfl (by omega) (by decide) (by omega) ?_
        refine g_aload_n (i := 0) (by decide +kernel) rfl ?_
        refine g_getr f_La_18 (by decide +kernel) (by omega) hL.a0 rfl ?_
        refine g_iload (i := 4) (by decide +kernel) rfl ?_
        refine g_iload_n (i := 3) (by decide +kernel) rfl ?_
        refine g_aload_n (i := 1) (by decide +kernel) rfl ?_
        refine g_getr f_La_54 (by decide +kernel) (by omega) hS.a0 rfl ?_
        refine g_iload (i := 4) (by decide +kernel) rfl ?_
        refine g_iald (j := k) (by decide +kernel) (by omega) hS.a6 rfl (by omega) (by decide) ?_
        refine g_iadd (by decide +kernel) ?_
        refine g_iast (j := k) (by decide +kernel) (by omega) hL.a3 rfl (by omega) (by decide) ?_
        refine g_aload_n (i := 0) (by decide +kernel) rfl ?_
        refine g_getr f_La_18 (by decide +kernel) (by omega) hL.a0 rfl ?_
        refine g_iload (i := 4) (by decide +kernel) rfl ?_
        refine g_iald (j := k) (by decide +kernel) (by omega) hL.a3 rfl (by omega) (by decide) ?_
        refine g_aload_n (i := 0) (by decide +kernel) rfl ?_
        refine g_getr f_La_15 (by decide +kernel) (by omega) hL.a0 rfl ?_
        refine g_iload (i := 4) (by decide +kernel) rfl ?_
        refine g_iald (j := k) (by decide +kernel) (by omega) hL.a2 rfl (by omega) (by decide) ?_
        refine g_iadd (by decide +kernel) ?_
        refine g_istore_n (i := 3) (L' := [(0, _), (1, _), (2, _), (3, _), (4, _), (5, _)]) (by decide +kernel) rfl rfl ?_
        refine g_aload_n (i := 1) (by decide +kernel) rfl ?_
        refine g_iload_n (i := 2) (by decide +kernel) rfl ?_
        refine g_iload (i := 5) (by decide +kernel) rfl ?_
        obtain ⟨v1, v2, v3⟩ := zLE_in st1 hbc
        have tg1 := zGood_eq v1 hg
        refine g_eq (σ' := zs (zs (zs τ (c + 4) k k) (c + 5) k 0) (c + 3) k (x3 + τ (b + 6) k)) (st' := [vi (((p + 1 : Nat) : Nat) : Int), vi (q : Int), vr G b]) (L' := [(0, vr G c), (1, vr G b), (2, vi (q : Int)), (3, vi (zEn (zSv σ b) (σ (c + 2)) q (p + 1))), (4, vi (k : Int)), (5, vi x5)]) ?_ (by rw [zs_other (show b + 6 ≠ c + 5 by omega), zs_other (show b + 6 ≠ c + 4 by omega)]) (by rw [es, zs_eq, zs_other (show c + 2 ≠ c + 3 by omega), zs_other (show c + 2 ≠ c + 5 by omega), zs_other (show c + 2 ≠ c + 4 by omega), u2, zs_other (show b + 6 ≠ c + 5 by omega), zs_other (show b + 6 ≠ c + 4 by omega), u1 6 (by decide), e3]) (by rw [show (((p + 1 : Nat) : Nat) : Int) = x5 by omega])
        refine g_cVI (st := []) (c_Sh_childAt (k := (q : Int)) (p := (((p + 1 : Nat) : Nat) : Int)) hn hS tg1 ⟨by omega, by omega⟩ ⟨by omega, by omega⟩) k_Sh_childAt l_La_57 (by decide +kernel) (by omega) hS.a0 rfl rfl rfl (Nat.le_of_ble_eq_true rfl) (by decide) ⟨by decide, by decide⟩ ?_
        rintro a σ1 ⟨ea, hσ⟩
        obtain rfl := hσ.symm
        have ea : a = zch (zSv σ b) q ((p + 1 : Nat) : Int) := by
          rw [ea, v1 2 (by decide), v1 3 (by decide), show (zs (zs (zs τ (c + 4) k k) (c + 5) k 0) (c + 3) k (x3 + τ (b + 6) k)) b = σ b from v1 0 (by decide)]
          rfl
        refine g_istore (i := 4) (L' := [(0, _), (1, _), (2, _), (3, _), (4, _), (5, _)]) (by decide +kernel) rfl rfl ?_
        refine g_iinc (i := 5) (b := 1) (L' := [(0, _), (1, _), (2, _), (3, _), (4, _), (5, _)]) (by decide +kernel) rfl rfl rfl ?_
        refine g_goto (off := -74) (tgt := 13) (by decide +kernel) (by decide) ?_
        exact ih (p + 1) _ _ _ _ (by omega) ea rfl st1 (by omega) (by omega)
theorem c_La_layOneBehindTheOther {G : zG} {n : Nat} {σ : zSt} {b c : Nat} (hn : 189 ≤ n) (hL : zLa SH c) (hS : zSw SH b) (hg : zGood σ b) (hbc : c + 6 ≤ b ∨ b + 10 ≤ c) {q : Nat} (hq : q < 12) (hpl : ∀ j, j < (σ b 0).toNat → σ (b + 2) j = q → 0 ≤ σ (b + 3) j ∧ σ (b + 3) j < 12 ∧ zch (zSv σ b) q (σ (b + 3) j) = j) (hcs : ∀ p p' : Nat, p ≤ p' → zch (zSv σ b) q p = -1 → zch (zSv σ b) q p' = -1) : Gm G y_La_layOneBehindTheOther m_La_layOneBehindTheOther 1 0 0 [vr G c, vr G b, vi (q : Int)] n SH σ (zI n SH (fun a σ' => a = zEn (zSv σ b) (σ (c + 2)) q 12 ∧ zLE σ σ' b c q 12)) := by
  refine g_enter (L := [(0, _), (1, _), (2, _)]) (by decide) rfl rfl rfl (Nat.le_of_ble_eq_true rfl) (fun X => ?_)
  have hb := hS.1
  have hcc := hL.1
  have hc := hg.1
  have tg := hg
  refine g_iconst (a := 0) (by decide +kernel) ?_
  refine g_istore_n (i := 3) (L' := [(0, _), (1, _), (2, _), (3, _)]) (by decide +kernel) rfl rfl ?_
  refine g_aload_n (i := 1) (by decide +kernel) rfl ?_
  refine g_iload_n (i := 2) (by decide +kernel) rfl ?_
  refine g_iconst (a := 0) (by decide +kernel) ?_
  refine g_cVI (st := []) (c_Sh_childAt (k := (q : Int)) (p := 0) hn hS hg ⟨by omega, by omega⟩ ⟨by omega, by omega⟩) k_Sh_childAt l_La_57 (by decide +kernel) (by omega) hS.a0 rfl rfl rfl (Nat.le_of_ble_eq_true rfl) (by decide) ⟨by decide, by decide⟩ ?_
  rintro a σ1 ⟨ea, hσ⟩
  obtain rfl := hσ.symm
  refine g_istore (i := 4) (L' := [(0, _), (1, _), (2, _), (3, _), (4, _)]) (by decide +kernel) rfl rfl ?_
  refine g_iconst (a := 1) (by decide +kernel) ?_
  refine g_istore (i := 5) (L' := [(0, _), (1, _), (2, _), (3, _), (4, _), (5, _)]) (by decide +kernel) rfl rfl ?_
  exact w_La_layOneBehindTheOther hn hL hS hg hbc hq hpl hcs 13 0 _ _ _ σ rfl ea rfl ⟨fun _ _ _ _ => rfl, fun j hj => by have := hpl j hj.1 hj.2.1; omega, fun _ _ => ⟨rfl, rfl, rfl⟩⟩ (by omega) (by omega)
