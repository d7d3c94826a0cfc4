/-! ACTS of the reference: its row holds ten Shows of 194 numbers: 0 the Show, 1 to 8 those kept, 9 the draft -/
section BLK
variable {σ τ S T : zSt} {c c' : Nat → Int} {o o' : Nat}
theorem zmO_r {r : Nat} (h1 : 1 ≤ r) (h2 : r ≤ 6) : 2 ≤ zmO r ∧ zmO r + 12 ≤ 194 := by
  rcases (by omega : r = 1 ∨ r = 2 ∨ r = 3 ∨ r = 4 ∨ r = 5 ∨ r = 6) with rfl | rfl | rfl | rfl | rfl | rfl <;> decide
theorem zMw_blk (hN : zN S ≤ 12 ∧ (S 0 8).toNat ≤ 6) (h : ∀ j, j < 194 → c' (o' + j) = c (o + j)) (E : zEqv S (zMw c o)) : zEqv S (zMw c' o') := by
  have e : ∀ r j, 1 ≤ r → r ≤ 6 → j < 12 → zMw c' o' r j = zMw c o r j := fun r j h1 h2 hj => by
    have b := zmO_r h1 h2
    unfold zMw
    rw [if_neg (by omega), if_neg (by omega), Nat.add_assoc, Nat.add_assoc, h _ (by omega)]
  have e7 : ∀ j, j < 108 → zMw c' o' 7 j = zMw c o 7 j := fun j hj => by
    unfold zMw
    rw [if_neg (by decide), if_neg (by decide), Nat.add_assoc, Nat.add_assoc, h _ (by show 38 + j < 194; omega)]
  have e8 : ∀ j, j < 6 → zMw c' o' 8 j = zMw c o 8 j ∧ zMw c' o' 9 j = zMw c o 9 j := fun j hj => by
    unfold zMw
    rw [if_neg (by decide), if_neg (by decide), if_neg (by decide), if_neg (by decide), Nat.add_assoc, Nat.add_assoc, Nat.add_assoc, Nat.add_assoc, h _ (by show 182 + j < 194; omega), h _ (by show 188 + j < 194; omega)]
    exact ⟨rfl, rfl⟩
  obtain ⟨⟨E0, E8⟩, E1, E7, E9⟩ := E
  refine ⟨⟨?_, ?_⟩, fun k hk r h1 h2 => by rw [e r k h1 h2 (by omega)]; exact E1 k hk r h1 h2, fun k hk w hw => by rw [e7 _ (by omega)]; exact E7 k hk w hw, fun i hi => by rw [(e8 i (by omega)).1, (e8 i (by omega)).2]; exact E9 i hi⟩
  · have := h 0 (by decide)
    rw [Nat.add_zero, Nat.add_zero] at this
    show c' o' = _
    rw [this]; exact E0
  · show c' (o' + 1) = _
    rw [h 1 (by decide)]; exact E8
theorem zMc.b (h : zMc σ S) : zN S ≤ 12 ∧ (S 0 8).toNat ≤ 6 := by
  have := h.N
  have hz : zN S = (S 0 0).toNat := rfl
  omega
/-- what an act leaves besides the Shows -/
def zAF (σ σ' : zSt) : Prop := (∀ a, (a < 189 ∨ a = 196 ∨ a = 197 ∨ 216 ≤ a) → σ' a = σ a) ∧ ∀ j, (j = 4 ∨ j = 11 ∨ j = 12 ∨ j = 13 ∨ j = 49) → σ' 189 j = σ 189 j
theorem zAF.rf (σ : zSt) : zAF σ σ := ⟨fun _ _ => rfl, fun _ _ => rfl⟩
theorem zAF.tr {υ : zSt} (h : zAF σ τ) (g : zAF τ υ) : zAF σ υ := ⟨fun a ha => (g.1 a ha).trans (h.1 a ha), fun j hj => (g.2 j hj).trans (h.2 j hj)⟩
theorem zAF.put {j : Nat} {v : Int} (h : zAF σ τ) (hj : ¬ (j = 4 ∨ j = 11 ∨ j = 12 ∨ j = 13 ∨ j = 49)) : zAF σ (zs τ 189 j v) := h.tr ⟨fun a ha => zs_other (by omega), fun i hi => zs_ne (fun y => hj (by rw [← y.2]; exact hi))⟩
theorem zAF.row {j : Nat} {v : Int} (h : zAF σ τ) : zAF σ (zs τ 190 j v) := h.tr ⟨fun a ha => zs_other (by omega), fun i hi => by rw [zs_other (by decide)]⟩
theorem zAF.of {υ : zSt} (h : zAF σ τ) (g : ∀ a, (a < 190 ∨ a = 196 ∨ a = 197 ∨ 216 ≤ a) → υ a = τ a) : zAF σ υ := h.tr ⟨fun a ha => g a (by omega), fun j _ => by rw [g 189 (by omega)]⟩
/-- one Show more is kept: S; src is where it came from -/
def zPsh (σ σ' : zSt) (src : Nat) : Prop := σ' 189 1 = min (σ 189 1 + 1) 8 ∧ (∀ j, j < 194 → σ' 190 (194 * (σ' 189 1).toNat + j) = σ 190 (src + j)) ∧ ∀ i, 1 ≤ i → i < (σ' 189 1).toNat → ∀ j, j < 194 → σ' 190 (194 * ((σ' 189 1).toNat - i) + j) = σ 190 (194 * ((σ 189 1).toNat + 1 - i) + j)
def zAcM (σ σ' : zSt) (a w v : Int) (S S' : zSt) : Prop := zAF σ σ' ∧ σ' 189 2 = w ∧ ((w ≠ 0 ∧ a = -1 ∧ σ' 189 1 = σ 189 1 ∧ zEqv S (zMw (σ' 190) 0) ∧ ∀ j, 194 ≤ j → j < 1746 → σ' 190 j = σ 190 j) ∨ (w = 0 ∧ a = v ∧ zEqv S' (zMw (σ' 190) 0) ∧ σ' 189 1 = min (σ 189 1 + 1) 8 ∧ zEqv S (zMw (σ' 190) (194 * (σ' 189 1).toNat)) ∧ ∀ i, 1 ≤ i → i < (σ' 189 1).toNat → ∀ j, j < 194 → σ' 190 (194 * ((σ' 189 1).toNat - i) + j) = σ 190 (194 * ((σ 189 1).toNat + 1 - i) + j)))
/-- the blocks from 1 on have moved down by one, below block k -/
def zsh (c : Nat → Int) (k : Nat) : Nat → Int := fun j => if 194 ≤ j ∧ j < 194 * (k - 1) then c (j + 194) else c j
theorem zrow_zrow (σ : zSt) (a : Nat) (f g : Nat → Int) : zrow (zrow σ a f) a g = zrow σ a g := by
  funext q
  by_cases z : q = a
  · rw [z, zrow_eq, zrow_eq]
  · rw [zrow_ne z, zrow_ne z, zrow_ne z]
theorem zsh_0 (c : Nat → Int) : zsh c 2 = c := by funext j; unfold zsh; rw [if_neg (by omega)]
theorem zsh_s (c : Nat → Int) {k : Nat} (h : 2 ≤ k) : zcb (zsh c k) (194 * k) (194 * (k - 1)) 194 = zsh c (k + 1) := by
  funext j
  unfold zcb
  by_cases z : 194 * (k - 1) ≤ j ∧ j < 194 * (k - 1) + 194
  · rw [if_pos z]
    unfold zsh
    rw [if_neg (by omega), if_pos (by omega), show 194 * k + (j - 194 * (k - 1)) = j + 194 by omega]
  · rw [if_neg z]
    unfold zsh
    by_cases y : 194 ≤ j ∧ j < 194 * (k - 1)
    · rw [if_pos y, if_pos (by omega)]
    · rw [if_neg y, if_neg (by omega)]
end BLK
theorem w_Md_keeps {G : zG} {X : zX} {n : Nat} {σ : zSt} (hn : 220 ≤ n) {post : zPost} (kk : ∀ x1, Go G X m_Md_keeps (1, 0, 0, 0, 0) n SH (zrow σ 190 (zsh (σ 190) 9)) 39 [(0, vr G 189), (1, vi x1)] [] post)  : ∀ (m : Nat) (i : Nat) (x1 : Int), x1 = (i : Int) → 2 ≤ i → i ≤ 9 → 9 < i + m → Go G X m_Md_keeps (1, 0, 0, 0, 0) n SH (zrow σ 190 (zsh (σ 190) i)) 11 [(0, vr G 189), (1, vi x1)] [] (post) := by
  intro m
  induction m with
  | zero => intro i x1 e1 i2 hi hm; exact absurd hm (by omega)
  | succ m ih =>
    intro i x1 e1 i2 hi hm
    subst e1
    refine g_iload_n (i := 1) (by decide +kernel) rfl ?_
    refine g_bipush (a := 8) (by decide +kernel) (by decide) ?_
    refine g_icmp_gt (off := 25) (tgt := 39) (by decide +kernel) (by decide) ⟨by omega, by omega⟩ ⟨by omega, by omega⟩ (fun h14 => ?_) (fun h14 => ?_)
    · rw [show i = 9 by omega]
      exact kk _
    · refine g_aload_n (i := 0) (by decide +kernel) rfl ?_
      refine g_sipush (a := 194) (by decide +kernel) (by decide) ?_
      refine g_iload_n (i := 1) (by decide +kernel) rfl ?_
      refine g_imul (by decide +kernel) ?_
      refine g_sipush (a := 194) (by decide +kernel) (by decide) ?_
      refine g_iload_n (i := 1) (by decide +kernel) rfl ?_
      refine g_iconst (a := 1) (by decide +kernel) ?_
      refine g_isub (by decide +kernel) ?_
      refine g_imul (by decide +kernel) ?_
      rw [show (194 : Int) * (i : Int) = ((194 * i : Nat) : Int) by omega, show (194 : Int) * ((i : Int) - 1) = ((194 * (i - 1) : Nat) : Int) by omega]
      refine g_cVV (st := _) (c_Md_copy (f := 194 * i) (t := 194 * (i - 1)) hn (by omega) (by omega) (by omega)) k_Md_copy l_Md_159 (by decide +kernel) (by omega) rfl rfl rfl rfl (Nat.le_of_ble_eq_true rfl) (by decide) ⟨by decide, by decide⟩ ?_
      rintro ω hω
      rw [zrow_eq, zsh_s _ i2, zrow_zrow] at hω
      subst hω
      refine g_iinc (i := 1) (b := 1) (L' := [(0, _), (1, _)]) (by decide +kernel) rfl rfl rfl ?_
      refine g_goto (off := -25) (tgt := 11) (by decide +kernel) (by decide) ?_
      exact ih (i + 1) _ (by push_cast; rfl) (by omega) (by omega) (by omega)
theorem c_Md_keeps {G : zG} {n : Nat} {σ : zSt} (hn : 220 ≤ n) (hk : 0 ≤ σ 189 1 ∧ σ 189 1 ≤ 8) : Gm G y_Md_keeps m_Md_keeps 1 0 0 [vr G 189] n SH σ (zV n SH (fun σ' => (∀ a, a ≠ 189 → a ≠ 190 → σ' a = σ a) ∧ (∀ j, j ≠ 1 → σ' 189 j = σ 189 j) ∧ (∀ j, (j < 194 ∨ 1746 ≤ j) → σ' 190 j = σ 190 j) ∧ zPsh σ σ' 0)) := by
  refine g_enter (L := [(0, _)]) (by decide) rfl rfl rfl (Nat.le_of_ble_eq_true rfl) (fun X => ?_)
  have J49 : ∀ (τ : zSt) (m : Nat), (∀ a, a ≠ 189 → a ≠ 190 → τ a = σ a) → (∀ j, j ≠ 1 → τ 189 j = σ 189 j) → τ 189 1 = (m : Int) → m ≤ 7 → (m : Int) + 1 = min (σ 189 1 + 1) 8 → (∀ j, (j < 194 ∨ 1746 ≤ j) → τ 190 j = σ 190 j) → (∀ i, 1 ≤ i → i < m + 1 → ∀ j, j < 194 → τ 190 (194 * (m + 1 - i) + j) = σ 190 (194 * ((σ 189 1).toNat + 1 - i) + j)) → Go G X m_Md_keeps (1, 0, 0, 0, 0) n SH τ 49 [(0, vr G 189)] [] (zV n SH (fun σ' => (∀ a, a ≠ 189 → a ≠ 190 → σ' a = σ a) ∧ (∀ j, j ≠ 1 → σ' 189 j = σ 189 j) ∧ (∀ j, (j < 194 ∨ 1746 ≤ j) → σ' 190 j = σ 190 j) ∧ zPsh σ σ' 0)) := by
    intro τ m f1 f2 em hm hm2 f3 f4
    refine g_aload_n (i := 0) (by decide +kernel) rfl ?_
    refine g_dup (by decide +kernel) rfl ?_
    refine g_geti f_Md_156 (by decide +kernel) (by omega) rfl rfl ?_
    refine g_iconst (a := 1) (by decide +kernel) ?_
    refine g_iadd (by decide +kernel) ?_
    refine g_puti f_Md_156 (by decide +kernel) (by omega) rfl rfl ?_
    obtain ⟨υ, eυ⟩ : ∃ υ, υ = zs τ 189 1 (τ 189 1 + 1) := ⟨_, rfl⟩
    rw [← eυ]
    have u1 : υ 189 1 = ((m + 1 : Nat) : Int) := by rw [eυ, zs_eq, em]; push_cast; rfl
    have u2 : ∀ a, a ≠ 189 → υ a = τ a := fun a ha => by rw [eυ, zs_other ha]
    have u3 : ∀ j, j ≠ 1 → υ 189 j = τ 189 j := fun j hj => by rw [eυ, zs_ne (fun y => hj y.2)]
    refine g_aload_n (i := 0) (by decide +kernel) rfl ?_
    refine g_iconst (a := 0) (by decide +kernel) ?_
    refine g_sipush (a := 194) (by decide +kernel) (by decide) ?_
    refine g_aload_n (i := 0) (by decide +kernel) rfl ?_
    refine g_geti f_Md_156 (by decide +kernel) (by omega) rfl rfl ?_
    refine g_imul (by decide +kernel) ?_
    rw [u1, show (194 : Int) * ((m + 1 : Nat) : Int) = ((194 * (m + 1) : Nat) : Int) by omega]
    refine g_cVV (st := _) (c_Md_copy (f := 0) (t := 194 * (m + 1)) hn (by omega) (by omega) (by omega)) k_Md_copy l_Md_159 (by decide +kernel) (by omega) rfl rfl rfl rfl (Nat.le_of_ble_eq_true rfl) (by decide) ⟨by decide, by decide⟩ ?_
    rintro ω hω
    refine g_retV (by decide +kernel) rfl ⟨by decide, by decide⟩ ?_
    have w0 : ∀ a, a ≠ 190 → ω a = υ a := fun a ha => by rw [hω, zrow_ne ha]
    have w1 : ω 190 = zcb (υ 190) 0 (194 * (m + 1)) 194 := by rw [hω, zrow_eq]
    have m1 : ω 189 1 = ((m + 1 : Nat) : Int) := by rw [w0 189 (by decide)]; exact u1
    have m2 : (ω 189 1).toNat = m + 1 := by omega
    refine ⟨fun a h1 h2 => by rw [w0 a h2, u2 a h1]; exact f1 a h1 h2, fun j hj => by rw [w0 189 (by decide), u3 j hj]; exact f2 j hj, fun j hj => ?_, ?_, fun j hj => ?_, fun i i1 i2 j hj => ?_⟩
    · rw [w1]; unfold zcb; rw [if_neg (by omega), u2 190 (by decide)]; exact f3 j hj
    · rw [m1]; push_cast; exact hm2
    · rw [m2, w1]; unfold zcb; rw [if_pos (by omega), u2 190 (by decide), show 0 + (194 * (m + 1) + j - 194 * (m + 1)) = 0 + j by omega]; exact f3 _ (by omega)
    · rw [m2] at i2 ⊢
      rw [w1]; unfold zcb
      rw [if_neg (by omega), u2 190 (by decide)]
      exact f4 i i1 i2 j hj
  refine g_aload_n (i := 0) (by decide +kernel) rfl ?_
  refine g_geti f_Md_156 (by decide +kernel) (by omega) rfl rfl ?_
  refine g_bipush (a := 8) (by decide +kernel) (by decide) ?_
  refine g_icmp_ne (off := 43) (tgt := 49) (by decide +kernel) (by decide) ⟨by omega, by omega⟩ ⟨by omega, by omega⟩ (fun h6 => ?_) (fun h6 => ?_)
  · first
      | (have hz : ¬ σ 189 1 = 8 := h6
         obtain ⟨m, em⟩ := Int.eq_ofNat_of_zero_le hk.1
         exact J49 σ m (fun _ _ _ => rfl) (fun _ _ => rfl) em (by omega) (by omega) (fun _ _ => rfl) (fun i i1 i2 j hj => by rw [show (σ 189 1).toNat = m by omega]))
      | (have hz : σ 189 1 = 8 := h6
         refine g_less [0] rfl ?_
         refine J49 (zs ρ 189 1 (ρ 189 1 - 1)) 7 (fun a h1 h2 => by rw [zs_other h1, eρ, zrow_ne h2]) (fun j hj => by rw [zs_ne (fun y => hj y.2), e89]) (by rw [zs_eq, e89, hz]; rfl) (by omega) (by rw [hz]; rfl) (fun j hj => ?_) (fun i i1 i2 j hj => ?_)
         · rw [zs_other (by decide), eρ, zrow_eq]; unfold zsh; rw [if_neg (by omega)]
         · rw [zs_other (by decide), eρ, zrow_eq]; unfold zsh; rw [if_pos (by omega), hz, show 194 * (7 + 1 - i) + j + 194 = 194 * ((8 : Int).toNat + 1 - i) + j by show _ = 194 * (8 + 1 - i) + j; omega])
  · refine g_iconst (a := 2) (by decide +kernel) ?_
    refine g_istore_n (i := 1) (L' := [(0, _), (1, _)]) (by decide +kernel) rfl rfl ?_
    refine g_eq (σ' := zrow σ 190 (zsh (σ 190) 2)) ?_ (by rw [zsh_0, zrow_id]) rfl rfl
    refine w_Md_keeps hn (fun x1 => ?_) 8 2 _ rfl (by omega) (by omega) (by omega)
    obtain ⟨ρ, eρ⟩ : ∃ ρ, ρ = zrow σ 190 (zsh (σ 190) 9) := ⟨_, rfl⟩
    rw [← eρ]
    have e89 : ρ 189 = σ 189 := by rw [eρ, zrow_ne (by decide)]
    refine g_aload_n (i := 0) (by decide +kernel) rfl ?_
    refine g_dup (by decide +kernel) rfl ?_
    refine g_geti f_Md_156 (by decide +kernel) (by omega) rfl rfl ?_
    refine g_iconst (a := 1) (by decide +kernel) ?_
    refine g_isub (by decide +kernel) ?_
    refine g_puti f_Md_156 (by decide +kernel) (by omega) rfl rfl ?_
    first
      | (have hz : ¬ σ 189 1 = 8 := h6
         obtain ⟨m, em⟩ := Int.eq_ofNat_of_zero_le hk.1
         exact J49 σ m (fun _ _ _ => rfl) (fun _ _ => rfl) em (by omega) (by omega) (fun _ _ => rfl) (fun i i1 i2 j hj => by rw [show (σ 189 1).toNat = m by omega]))
      | (have hz : σ 189 1 = 8 := h6
         refine g_less [0] rfl ?_
         refine J49 (zs ρ 189 1 (ρ 189 1 - 1)) 7 (fun a h1 h2 => by rw [zs_other h1, eρ, zrow_ne h2]) (fun j hj => by rw [zs_ne (fun y => hj y.2), e89]) (by rw [zs_eq, e89, hz]; rfl) (by omega) (by rw [hz]; rfl) (fun j hj => ?_) (fun i i1 i2 j hj => ?_)
         · rw [zs_other (by decide), eρ, zrow_eq]; unfold zsh; rw [if_neg (by omega)]
         · rw [zs_other (by decide), eρ, zrow_eq]; unfold zsh; rw [if_pos (by omega), hz, show 194 * (7 + 1 - i) + j + 194 = 194 * ((8 : Int).toNat + 1 - i) + j by show _ = 194 * (8 + 1 - i) + j; omega])
theorem w_Md_stays {G : zG} {X : zX} {n : Nat} {σ : zSt} (hn : 220 ≤ n) {post : zPost} (kk : ∀ x1, Go G X m_Md_stays (1, 0, 0, 0, 0) n SH (zrow σ 190 (zsh (σ 190) 9)) 39 [(0, vr G 189), (1, vi x1)] [] post)  : ∀ (m : Nat) (i : Nat) (x1 : Int), x1 = (i : Int) → 2 ≤ i → i ≤ 9 → 9 < i + m → Go G X m_Md_stays (1, 0, 0, 0, 0) n SH (zrow σ 190 (zsh (σ 190) i)) 11 [(0, vr G 189), (1, vi x1)] [] (post) := by
  intro m
  induction m with
  | zero => intro i x1 e1 i2 hi hm; exact absurd hm (by omega)
  | succ m ih =>
    intro i x1 e1 i2 hi hm
    subst e1
    refine g_iload_n (i := 1) (by decide +kernel) rfl ?_
    refine g_bipush (a := 8) (by decide +kernel) (by decide) ?_
    refine g_icmp_gt (off := 25) (tgt := 39) (by decide +kernel) (by decide) ⟨by omega, by omega⟩ ⟨by omega, by omega⟩ (fun h14 => ?_) (fun h14 => ?_)
    · rw [show i = 9 by omega]
      exact kk _
    · refine g_aload_n (i := 0) (by decide +kernel) rfl ?_
      refine g_sipush (a := 194) (by decide +kernel) (by decide) ?_
      refine g_iload_n (i := 1) (by decide +kernel) rfl ?_
      refine g_imul (by decide +kernel) ?_
      refine g_sipush (a := 194) (by decide +kernel) (by decide) ?_
      refine g_iload_n (i := 1) (by decide +kernel) rfl ?_
      refine g_iconst (a := 1) (by decide +kernel) ?_
      refine g_isub (by decide +kernel) ?_
      refine g_imul (by decide +kernel) ?_
      rw [show (194 : Int) * (i : Int) = ((194 * i : Nat) : Int) by omega, show (194 : Int) * ((i : Int) - 1) = ((194 * (i - 1) : Nat) : Int) by omega]
      refine g_cVV (st := _) (c_Md_copy (f := 194 * i) (t := 194 * (i - 1)) hn (by omega) (by omega) (by omega)) k_Md_copy l_Md_159 (by decide +kernel) (by omega) rfl rfl rfl rfl (Nat.le_of_ble_eq_true rfl) (by decide) ⟨by decide, by decide⟩ ?_
      rintro ω hω
      rw [zrow_eq, zsh_s _ i2, zrow_zrow] at hω
      subst hω
      refine g_iinc (i := 1) (b := 1) (L' := [(0, _), (1, _)]) (by decide +kernel) rfl rfl rfl ?_
      refine g_goto (off := -25) (tgt := 11) (by decide +kernel) (by decide) ?_
      exact ih (i + 1) _ (by push_cast; rfl) (by omega) (by omega) (by omega)
theorem c_Md_stays {G : zG} {n : Nat} {σ : zSt} (hn : 220 ≤ n) (hk : 0 ≤ σ 189 1 ∧ σ 189 1 ≤ 8) : Gm G y_Md_stays m_Md_stays 1 0 0 [vr G 189] n SH σ (zV n SH (fun σ' => (∀ a, a ≠ 189 → a ≠ 190 → σ' a = σ a) ∧ (∀ j, j ≠ 1 → σ' 189 j = σ 189 j) ∧ (∀ j, (j < 194 ∨ 1746 ≤ j) → σ' 190 j = σ 190 j) ∧ zPsh σ σ' 1746)) := by
  refine g_enter (L := [(0, _)]) (by decide) rfl rfl rfl (Nat.le_of_ble_eq_true rfl) (fun X => ?_)
  have J49 : ∀ (τ : zSt) (m : Nat), (∀ a, a ≠ 189 → a ≠ 190 → τ a = σ a) → (∀ j, j ≠ 1 → τ 189 j = σ 189 j) → τ 189 1 = (m : Int) → m ≤ 7 → (m : Int) + 1 = min (σ 189 1 + 1) 8 → (∀ j, (j < 194 ∨ 1746 ≤ j) → τ 190 j = σ 190 j) → (∀ i, 1 ≤ i → i < m + 1 → ∀ j, j < 194 → τ 190 (194 * (m + 1 - i) + j) = σ 190 (194 * ((σ 189 1).toNat + 1 - i) + j)) → Go G X m_Md_stays (1, 0, 0, 0, 0) n SH τ 49 [(0, vr G 189)] [] (zV n SH (fun σ' => (∀ a, a ≠ 189 → a ≠ 190 → σ' a = σ a) ∧ (∀ j, j ≠ 1 → σ' 189 j = σ 189 j) ∧ (∀ j, (j < 194 ∨ 1746 ≤ j) → σ' 190 j = σ 190 j) ∧ zPsh σ σ' 1746)) := by
    intro τ m f1 f2 em hm hm2 f3 f4
    refine g_aload_n (i := 0) (by decide +kernel) rfl ?_
    refine g_dup (by decide +kernel) rfl ?_
    refine g_geti f_Md_156 (by decide +kernel) (by omega) rfl rfl ?_
    refine g_iconst (a := 1) (by decide +kernel) ?_
    refine g_iadd (by decide +kernel) ?_
    refine g_puti f_Md_156 (by decide +kernel) (by omega) rfl rfl ?_
    obtain ⟨υ, eυ⟩ : ∃ υ, υ = zs τ 189 1 (τ 189 1 + 1) := ⟨_, rfl⟩
    rw [← eυ]
    have u1 : υ 189 1 = ((m + 1 : Nat) : Int) := by rw [eυ, zs_eq, em]; push_cast; rfl
    have u2 : ∀ a, a ≠ 189 → υ a = τ a := fun a ha => by rw [eυ, zs_other ha]
    have u3 : ∀ j, j ≠ 1 → υ 189 j = τ 189 j := fun j hj => by rw [eυ, zs_ne (fun y => hj y.2)]
    refine g_aload_n (i := 0) (by decide +kernel) rfl ?_
    refine g_sipush (a := 1746) (by decide +kernel) (by decide) ?_
    refine g_sipush (a := 194) (by decide +kernel) (by decide) ?_
    refine g_aload_n (i := 0) (by decide +kernel) rfl ?_
    refine g_geti f_Md_156 (by decide +kernel) (by omega) rfl rfl ?_
    refine g_imul (by decide +kernel) ?_
    rw [u1, show (194 : Int) * ((m + 1 : Nat) : Int) = ((194 * (m + 1) : Nat) : Int) by omega]
    refine g_cVV (st := _) (c_Md_copy (f := 1746) (t := 194 * (m + 1)) hn (by omega) (by omega) (by omega)) k_Md_copy l_Md_159 (by decide +kernel) (by omega) rfl rfl rfl rfl (Nat.le_of_ble_eq_true rfl) (by decide) ⟨by decide, by decide⟩ ?_
    rintro ω hω
    refine g_retV (by decide +kernel) rfl ⟨by decide, by decide⟩ ?_
    have w0 : ∀ a, a ≠ 190 → ω a = υ a := fun a ha => by rw [hω, zrow_ne ha]
    have w1 : ω 190 = zcb (υ 190) 1746 (194 * (m + 1)) 194 := by rw [hω, zrow_eq]
    have m1 : ω 189 1 = ((m + 1 : Nat) : Int) := by rw [w0 189 (by decide)]; exact u1
    have m2 : (ω 189 1).toNat = m + 1 := by omega
    refine ⟨fun a h1 h2 => by rw [w0 a h2, u2 a h1]; exact f1 a h1 h2, fun j hj => by rw [w0 189 (by decide), u3 j hj]; exact f2 j hj, fun j hj => ?_, ?_, fun j hj => ?_, fun i i1 i2 j hj => ?_⟩
    · rw [w1]; unfold zcb; rw [if_neg (by omega), u2 190 (by decide)]; exact f3 j hj
    · rw [m1]; push_cast; exact hm2
    · rw [m2, w1]; unfold zcb; rw [if_pos (by omega), u2 190 (by decide), show 1746 + (194 * (m + 1) + j - 194 * (m + 1)) = 1746 + j by omega]; exact f3 _ (by omega)
    · rw [m2] at i2 ⊢
      rw [w1]; unfold zcb
      rw [if_neg (by omega), u2 190 (by decide)]
      exact f4 i i1 i2 j hj
  refine g_aload_n (i := 0) (by decide +kernel) rfl ?_
  refine g_geti f_Md_156 (by decide +kernel) (by omega) rfl rfl ?_
  refine g_bipush (a := 8) (by decide +kernel) (by decide) ?_
  refine g_icmp_ne (off := 43) (tgt := 49) (by decide +kernel) (by decide) ⟨by omega, by omega⟩ ⟨by omega, by omega⟩ (fun h6 => ?_) (fun h6 => ?_)
  · first
      | (have hz : ¬ σ 189 1 = 8 := h6
         obtain ⟨m, em⟩ := Int.eq_ofNat_of_zero_le hk.1
         exact J49 σ m (fun _ _ _ => rfl) (fun _ _ => rfl) em (by omega) (by omega) (fun _ _ => rfl) (fun i i1 i2 j hj => by rw [show (σ 189 1).toNat = m by omega]))
      | (have hz : σ 189 1 = 8 := h6
         refine g_less [0] rfl ?_
         refine J49 (zs ρ 189 1 (ρ 189 1 - 1)) 7 (fun a h1 h2 => by rw [zs_other h1, eρ, zrow_ne h2]) (fun j hj => by rw [zs_ne (fun y => hj y.2), e89]) (by rw [zs_eq, e89, hz]; rfl) (by omega) (by rw [hz]; rfl) (fun j hj => ?_) (fun i i1 i2 j hj => ?_)
         · rw [zs_other (by decide), eρ, zrow_eq]; unfold zsh; rw [if_neg (by omega)]
         · rw [zs_other (by decide), eρ, zrow_eq]; unfold zsh; rw [if_pos (by omega), hz, show 194 * (7 + 1 - i) + j + 194 = 194 * ((8 : Int).toNat + 1 - i) + j by show _ = 194 * (8 + 1 - i) + j; omega])
  · refine g_iconst (a := 2) (by decide +kernel) ?_
    refine g_istore_n (i := 1) (L' := [(0, _), (1, _)]) (by decide +kernel) rfl rfl ?_
    refine g_eq (σ' := zrow σ 190 (zsh (σ 190) 2)) ?_ (by rw [zsh_0, zrow_id]) rfl rfl
    refine w_Md_stays hn (fun x1 => ?_) 8 2 _ rfl (by omega) (by omega) (by omega)
    obtain ⟨ρ, eρ⟩ : ∃ ρ, ρ = zrow σ 190 (zsh (σ 190) 9) := ⟨_, rfl⟩
    rw [← eρ]
    have e89 : ρ 189 = σ 189 := by rw [eρ, zrow_ne (by decide)]
    refine g_aload_n (i := 0) (by decide +kernel) rfl ?_
    refine g_dup (by decide +kernel) rfl ?_
    refine g_geti f_Md_156 (by decide +kernel) (by omega) rfl rfl ?_
    refine g_iconst (a := 1) (by decide +kernel) ?_
    refine g_isub (by decide +kernel) ?_
    refine g_puti f_Md_156 (by decide +kernel) (by omega) rfl rfl ?_
    first
      | (have hz : ¬ σ 189 1 = 8 := h6
         obtain ⟨m, em⟩ := Int.eq_ofNat_of_zero_le hk.1
         exact J49 σ m (fun _ _ _ => rfl) (fun _ _ => rfl) em (by omega) (by omega) (fun _ _ => rfl) (fun i i1 i2 j hj => by rw [show (σ 189 1).toNat = m by omega]))
      | (have hz : σ 189 1 = 8 := h6
         refine g_less [0] rfl ?_
         refine J49 (zs ρ 189 1 (ρ 189 1 - 1)) 7 (fun a h1 h2 => by rw [zs_other h1, eρ, zrow_ne h2]) (fun j hj => by rw [zs_ne (fun y => hj y.2), e89]) (by rw [zs_eq, e89, hz]; rfl) (by omega) (by rw [hz]; rfl) (fun j hj => ?_) (fun i i1 i2 j hj => ?_)
         · rw [zs_other (by decide), eρ, zrow_eq]; unfold zsh; rw [if_neg (by omega)]
         · rw [zs_other (by decide), eρ, zrow_eq]; unfold zsh; rw [if_pos (by omega), hz, show 194 * (7 + 1 - i) + j + 194 = 194 * ((8 : Int).toNat + 1 - i) + j by show _ = 194 * (8 + 1 - i) + j; omega])
theorem c_Md_tries {G : zG} {n : Nat} {σ : zSt} (hn : 220 ≤ n)  : Gm G y_Md_tries m_Md_tries 1 0 0 [vr G 189] n SH σ (zV n SH (fun σ' => σ' = zrow σ 190 (zcb (σ 190) 0 1746 194))) := by
  refine g_enter (L := [(0, _)]) (by decide) rfl rfl rfl (Nat.le_of_ble_eq_true rfl) (fun X => ?_)
  refine g_aload_n (i := 0) (by decide +kernel) rfl ?_
  refine g_iconst (a := 0) (by decide +kernel) ?_
  refine g_sipush (a := 1746) (by decide +kernel) (by decide) ?_
  refine g_cVV (st := _) (c_Md_copy (f := 0) (t := 1746) hn (by omega) (by omega) (by omega)) k_Md_copy l_Md_159 (by decide +kernel) (by omega) rfl rfl rfl rfl (Nat.le_of_ble_eq_true rfl) (by decide) ⟨by decide, by decide⟩ ?_
  rintro ω hω
  refine g_retV (by decide +kernel) rfl ⟨by decide, by decide⟩ ?_
  exact hω
theorem c_Md_takesBack {G : zG} {n : Nat} {σ : zSt} {S : zSt} (hn : 220 ≤ n) (hS : zMc σ S) (hr : -1000000000 ≤ zlast S ∧ zlast S ≤ 1000000000) : Gm G y_Md_takesBack m_Md_takesBack 5 0 0 [vr G 189] n SH σ (zI n SH (fun a σ' => a = (if 1999 < zlast S then 1 else 0) ∧ ∃ τ, zMf1 σ τ ∧ σ' = (if 1999 < zlast S then zrow τ 190 (zcb (σ 190) 1746 0 194) else τ))) := by
  refine g_enter (L := [(0, _)]) (by decide) rfl rfl rfl (Nat.le_of_ble_eq_true rfl) (fun X => ?_)
  refine g_aload_n (i := 0) (by decide +kernel) rfl ?_
  refine g_cVL (st := _) (c_Md_lasts hn hS) k_Md_lasts l_Md_163 (by decide +kernel) (by omega) rfl rfl rfl rfl (Nat.le_of_ble_eq_true rfl) (by decide) ⟨by decide, by decide⟩ ?_
  rintro a9 τ ⟨ea9, hf, hl⟩
  have a9r : -1000000000 ≤ a9 ∧ a9 ≤ 1000000000 := by rw [ea9]; exact hr
  refine g_ldc2 (x := 167) (a := 1999) (by decide +kernel) c_Md_167 (by decide) ?_
  refine g_lcmp (by decide +kernel) ⟨by omega, by omega⟩ ⟨by omega, by omega⟩ ?_
  refine g_if_gt (off := 5) (tgt := 13) (by decide +kernel) (by decide) zcmp_r (fun h8 => ?_) (fun h8 => ?_)
  · have h8 := zcmp_gt.mp h8
    refine g_aload_n (i := 0) (by decide +kernel) rfl ?_
    refine g_sipush (a := 1746) (by decide +kernel) (by decide) ?_
    refine g_iconst (a := 0) (by decide +kernel) ?_
    refine g_cVV (st := _) (c_Md_copy (f := 1746) (t := 0) hn (by omega) (by omega) (by omega)) k_Md_copy l_Md_159 (by decide +kernel) (by omega) rfl rfl rfl rfl (Nat.le_of_ble_eq_true rfl) (by decide) ⟨by decide, by decide⟩ ?_
    rintro ω hω
    refine g_iconst (a := 1) (by decide +kernel) ?_
    refine g_retI (by decide +kernel) rfl (Or.inr ⟨rfl, by omega⟩) ⟨by decide, by decide⟩ ?_
    exact ⟨by rw [if_pos (by omega)], τ, hf, by rw [if_pos (by omega), hω, hf 190 (by omega)]⟩
  · have h8 := zcmp_le.mp h8
    refine g_iconst (a := 0) (by decide +kernel) ?_
    refine g_retI (by decide +kernel) rfl (Or.inr ⟨rfl, by omega⟩) ⟨by decide, by decide⟩ ?_
    exact ⟨by rw [if_neg (by omega)], τ, hf, by rw [if_neg (by omega)]⟩
