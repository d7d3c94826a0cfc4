/-! FEED of the reference -/
/-- the i-th of the four bytes of a number, with a sign -/
def zsbyte (x : Int) (i : Nat) : Int := (x / 2 ^ (24 - 8 * i)).bmod 256
theorem zsbyte_mod (x : Int) (i : Nat) : zsbyte x i % 256 = zbyte x i := by unfold zsbyte zbyte; exact Int.bmod_emod
theorem zsbyte_r (x : Int) (i : Nat) : -128 ≤ zsbyte x i ∧ zsbyte x i ≤ 127 := by unfold zsbyte; have h1 := @Int.le_bmod (x / 2 ^ (24 - 8 * i)) 256 (by decide); have h2 := @Int.bmod_lt (x / 2 ^ (24 - 8 * i)) 256 (by decide); omega
def zTapM (σ σ' : zSt) (x : Int) (c : Nat) : Prop := σ' 189 = zu (σ 189) 11 (σ 189 11 + c) ∧ (∀ j, j < c → σ' 196 ((σ 189 11).toNat + j) = zsbyte x j) ∧ (∀ j, (j < (σ 189 11).toNat ∨ (σ 189 11).toNat + c ≤ j) → σ' 196 j = σ 196 j) ∧ ∀ a, a ≠ 189 → a ≠ 196 → σ' a = σ a
theorem w_Md_lays {G : zG} {X : zX} {n : Nat} {σ : zSt} {x : Int} (hn : 220 ≤ n) (hx : zr x) (hl : 0 ≤ σ 189 11 ∧ σ 189 11 + 4 ≤ 600) : ∀ (m : Nat) (i : Nat) (x2 : Int) (τ : zSt), x2 = 24 - 8 * (i : Int) → zTapM σ τ x i → i ≤ 4 → 4 < i + m → Go G X m_Md_lays (0, 0, 0, 0, 0) n SH τ 3 [(0, vr G 189), (1, vi x), (2, vi x2)] [] (zV n SH (fun σ' => zTapM σ σ' x 4)) := by
  intro m
  induction m with
  | zero => intro i x2 τ e2 ht hi hm; exact absurd hm (by omega)
  | succ m ih =>
    intro i x2 τ e2 ht hi hm
    obtain ⟨t1, t2, t3, t4⟩ := id ht
    have s1 : τ 189 11 = σ 189 11 + i := by rw [t1, zu_eq]
    refine g_iload_n (i := 2) (by decide +kernel) rfl ?_
    refine g_if_lt (off := 32) (tgt := 36) (by decide +kernel) (by decide) ⟨by omega, by omega⟩ (fun h4 => ?_) (fun h4 => ?_)
    · refine g_retV (by decide +kernel) rfl ⟨by decide, by decide⟩ ?_
      rw [show i = 4 by omega] at ht
      exact ht
    · refine g_aload_n (i := 0) (by decide +kernel) rfl ?_
      refine g_getr f_Md_30 (by decide +kernel) (by omega) rfl rfl ?_
      refine g_aload_n (i := 0) (by decide +kernel) rfl ?_
      refine g_geti f_Md_198 (by decide +kernel) (by omega) rfl rfl ?_
      refine g_iload_n (i := 1) (by decide +kernel) rfl ?_
      refine g_iload_n (i := 2) (by decide +kernel) rfl ?_
      refine g_eq (st' := [vi ((24 - 8 * i : Nat) : Int), vi x, vi (τ 189 11), vr G 196]) ?_ rfl rfl (by rw [show ((24 - 8 * i : Nat) : Int) = x2 by omega])
      refine g_ishrI (by decide +kernel) hx (by omega) ?_
      refine g_i2b (by decide +kernel) ?_
      refine g_bast (j := (σ 189 11).toNat + i) (by decide +kernel) (by omega) rfl (by omega) (by omega) (by decide) (zsbyte_r x i) ?_
      refine g_aload_n (i := 0) (by decide +kernel) rfl ?_
      refine g_dup (by decide +kernel) rfl ?_
      refine g_geti f_Md_198 (by decide +kernel) (by omega) rfl rfl ?_
      refine g_iconst (a := 1) (by decide +kernel) ?_
      refine g_iadd (by decide +kernel) ?_
      refine g_puti f_Md_198 (by decide +kernel) (by omega) rfl rfl ?_
      refine g_iinc (i := 2) (b := -8) (L' := [(0, _), (1, _), (2, _)]) (by decide +kernel) rfl rfl rfl ?_
      refine g_goto (off := -30) (tgt := 3) (by decide +kernel) (by decide) ?_
      refine ih (i + 1) _ _ (by omega) ⟨?_, fun j hj => ?_, fun j hj => ?_, fun a h1 h2 => ?_⟩ (by omega) (by omega)
      · simp only [zs_app, if_true]
        simp only [show ¬ (189 : Nat) = 196 by decide, if_false, s1, t1]
        funext j
        simp only [zu_app]
        split
        · push_cast; omega
        · rfl
      · rcases Nat.lt_or_ge j i with q | q
        · have := t2 j q
          simpa [zs_app, zu_app, show ¬ (σ 189 11).toNat + j = (σ 189 11).toNat + i by omega, show ¬ j = i by omega] using this
        · have e : j = i := by omega
          subst e
          simp [zs_app, zu_app, zsbyte]
      · have := t3 j (by omega)
        simpa [zs_app, zu_app, show ¬ j = (σ 189 11).toNat + i by omega] using this
      · rw [zs_other h1, zs_other h2]; exact t4 a h1 h2
theorem c_Md_lays {G : zG} {n : Nat} {σ : zSt} {x : Int} (hn : 220 ≤ n) (hx : zr x) (hl : 0 ≤ σ 189 11 ∧ σ 189 11 + 4 ≤ 600) : Gm G y_Md_lays m_Md_lays 0 0 0 [vr G 189, vi x] n SH σ (zV n SH (fun σ' => zTapM σ σ' x 4)) := by
  refine g_enter (L := [(0, _), (1, _)]) (by decide) rfl rfl rfl (Nat.le_of_ble_eq_true rfl) (fun X => ?_)
  refine g_bipush (a := 24) (by decide +kernel) (by decide) ?_
  refine g_istore_n (i := 2) (L' := [(0, _), (1, _), (2, _)]) (by decide +kernel) rfl rfl ?_
  exact w_Md_lays hn hx hl 5 0 _ σ (by omega) ⟨by funext j; rw [zu_app]; split <;> simp_all, fun j hj => by omega, fun j _ => rfl, fun a _ _ => rfl⟩ (by omega) (by omega)
theorem c_Md_feed {G : zG} {n : Nat} {σ : zSt} {a b c d e : Int} (hn : 220 ≤ n) (z1 : zr a) (z2 : zr b) (z3 : zr c) (z4 : zr d) (z5 : zr e) (ht : 0 ≤ σ 189 11 ∧ σ 189 11 ≤ 600) : Gm G y_Md_feed m_Md_feed 1 0 0 [vr G 189, vi a, vi b, vi c, vi d, vi e] n SH σ (zI n SH (fun x σ' => (580 < σ 189 11 ∧ x = -1 ∧ σ' = zs σ 189 3 0) ∨ (σ 189 11 ≤ 580 ∧ x = σ 189 11 + 20 ∧ ∃ t1 t2 t3 t4, zTapM (zs σ 189 3 0) t1 a 4 ∧ zTapM t1 t2 b 4 ∧ zTapM t2 t3 c 4 ∧ zTapM t3 t4 d 4 ∧ zTapM t4 σ' e 4))) := by
  refine g_enter (L := [(0, _), (1, _), (2, _), (3, _), (4, _), (5, _)]) (by decide) rfl rfl rfl (Nat.le_of_ble_eq_true rfl) (fun X => ?_)
  refine g_aload_n (i := 0) (by decide +kernel) rfl ?_
  refine g_iconst (a := 0) (by decide +kernel) ?_
  refine g_puti f_Md_142 (by decide +kernel) (by omega) rfl rfl ?_
  refine g_aload_n (i := 0) (by decide +kernel) rfl ?_
  obtain ⟨τ, eτ⟩ : ∃ τ, τ = zs σ 189 3 0 := ⟨_, rfl⟩
  rw [← eτ]
  have l0 : τ 189 11 = σ 189 11 := by rw [eτ, zs_ne (by decide)]
  refine g_geti f_Md_198 (by decide +kernel) (by omega) rfl rfl ?_
  refine g_bipush (a := 20) (by decide +kernel) (by decide) ?_
  refine g_iadd (by decide +kernel) ?_
  refine g_sipush (a := 600) (by decide +kernel) (by decide) ?_
  refine g_icmp_le (off := 5) (tgt := 20) (by decide +kernel) (by decide) ⟨by omega, by omega⟩ ⟨by omega, by omega⟩ (fun h15 => ?_) (fun h15 => ?_)
  · refine g_aload_n (i := 0) (by decide +kernel) rfl ?_
    refine g_iload_n (i := 1) (by decide +kernel) rfl ?_
    refine g_cVV (st := _) (c_Md_lays hn z1 (by omega)) k_Md_lays l_Md_201 (by decide +kernel) (by omega) rfl rfl rfl rfl (Nat.le_of_ble_eq_true rfl) (by decide) ⟨by decide, by decide⟩ ?_
    rintro t1 h1
    have l1 : t1 189 11 = σ 189 11 + 4 := by rw [h1.1, zu_eq, l0]; omega
    refine g_aload_n (i := 0) (by decide +kernel) rfl ?_
    refine g_iload_n (i := 2) (by decide +kernel) rfl ?_
    refine g_cVV (st := _) (c_Md_lays hn z2 (by omega)) k_Md_lays l_Md_201 (by decide +kernel) (by omega) rfl rfl rfl rfl (Nat.le_of_ble_eq_true rfl) (by decide) ⟨by decide, by decide⟩ ?_
    rintro t2 h2
    have l2 : t2 189 11 = σ 189 11 + 8 := by rw [h2.1, zu_eq, l1]; omega
    refine g_aload_n (i := 0) (by decide +kernel) rfl ?_
    refine g_iload_n (i := 3) (by decide +kernel) rfl ?_
    refine g_cVV (st := _) (c_Md_lays hn z3 (by omega)) k_Md_lays l_Md_201 (by decide +kernel) (by omega) rfl rfl rfl rfl (Nat.le_of_ble_eq_true rfl) (by decide) ⟨by decide, by decide⟩ ?_
    rintro t3 h3
    have l3 : t3 189 11 = σ 189 11 + 12 := by rw [h3.1, zu_eq, l2]; omega
    refine g_aload_n (i := 0) (by decide +kernel) rfl ?_
    refine g_iload (i := 4) (by decide +kernel) rfl ?_
    refine g_cVV (st := _) (c_Md_lays hn z4 (by omega)) k_Md_lays l_Md_201 (by decide +kernel) (by omega) rfl rfl rfl rfl (Nat.le_of_ble_eq_true rfl) (by decide) ⟨by decide, by decide⟩ ?_
    rintro t4 h4
    have l4 : t4 189 11 = σ 189 11 + 16 := by rw [h4.1, zu_eq, l3]; omega
    refine g_aload_n (i := 0) (by decide +kernel) rfl ?_
    refine g_iload (i := 5) (by decide +kernel) rfl ?_
    refine g_cVV (st := _) (c_Md_lays hn z5 (by omega)) k_Md_lays l_Md_201 (by decide +kernel) (by omega) rfl rfl rfl rfl (Nat.le_of_ble_eq_true rfl) (by decide) ⟨by decide, by decide⟩ ?_
    rintro t5 h5
    have l5 : t5 189 11 = σ 189 11 + 20 := by rw [h5.1, zu_eq, l4]; omega
    refine g_aload_n (i := 0) (by decide +kernel) rfl ?_
    refine g_geti f_Md_198 (by decide +kernel) (by omega) rfl rfl ?_
    refine g_retI (by decide +kernel) rfl (Or.inl rfl) ⟨by decide, by decide⟩ ?_
    exact Or.inr ⟨by omega, l5, t1, t2, t3, t4, h1, h2, h3, h4, h5⟩
  · refine g_iconst (a := -1) (by decide +kernel) ?_
    refine g_retI (by decide +kernel) rfl (Or.inl rfl) ⟨by decide, by decide⟩ ?_
    exact Or.inl ⟨by omega, rfl, rfl⟩
