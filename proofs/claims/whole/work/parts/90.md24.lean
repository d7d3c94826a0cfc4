section PR
variable {S : zSt} {c : Nat → Int} {x y : Int} {P i : Nat}
theorem zEqv_rows {S' : zSt} {c' : Nat → Int} (E : zEqv S (zMw c 0)) (hN : zN S ≤ 12) (h0 : S' 0 0 = S 0 0) (h : ∀ r, 1 ≤ r → r ≤ 7 → S' r = S r) (hc : ∀ j, j ≠ 1 → j < 182 → c' j = c j) (h8 : c' 1 = S' 0 8) (hp : ∀ i, i < (S' 0 8).toNat → c' (182 + i) = S' 8 i ∧ c' (188 + i) = S' 9 i) : zEqv S' (zMw c' 0) := by
  have e : ∀ r j, 1 ≤ r → r ≤ 6 → j < 12 → zMw c' 0 r j = zMw c 0 r j := fun r j h1 h2 hj => by
    have b : 2 ≤ zmO r ∧ zmO r + 12 ≤ 182 := by
      rcases (by omega : r = 1 ∨ r = 2 ∨ r = 3 ∨ r = 4 ∨ r = 5 ∨ r = 6) with rfl | rfl | rfl | rfl | rfl | rfl <;> decide
    unfold zMw
    rw [if_neg (by omega), if_neg (by omega), hc _ (by omega) (by omega)]
  have hz : zN S' = zN S := by unfold zN; rw [h0]
  obtain ⟨⟨E0, E8⟩, E1, E7, E9⟩ := E
  refine ⟨⟨?_, h8⟩, fun k hk r h1 h2 => ?_, fun k hk w hw => ?_, fun i hi => ?_⟩
  · show c' 0 = _
    rw [hc 0 (by decide) (by decide), h0]; exact E0
  · rw [hz] at hk
    rw [e r k h1 h2 (by omega), h r h1 (by omega)]; exact E1 k hk r h1 h2
  · rw [hz] at hk
    have q : zMw c' 0 7 (9 * k + w) = zMw c 0 7 (9 * k + w) := by
      show c' (0 + 38 + (9 * k + w)) = c (0 + 38 + (9 * k + w))
      rw [hc _ (by omega) (by omega)]
    rw [q, h 7 (by decide) (by decide)]; exact E7 k hk w hw
  · have q := hp i hi
    show c' (0 + 182 + i) = _ ∧ c' (0 + 188 + i) = _
    rw [Nat.zero_add, Nat.zero_add]; exact q
theorem zOpP_eqv (E : zEqv S (zMw c 0)) (hN : zN S ≤ 12) (eP : S 0 8 = (P : Int)) (hP : P < 6) : zEqv (zOpP S x y) (zMw (zu (zu (zu c (182 + P) x) (188 + P) y) 1 ((P : Int) + 1)) 0) := by
  have t : (S 0 8).toNat = P := by omega
  have n8 : zOpP S x y 0 8 = (P : Int) + 1 := by unfold zOpP; rw [zs_eq, eP]
  have r8 : zOpP S x y 8 = zu (S 8) P x := by unfold zOpP; rw [zs_other (by decide), zs_other (by decide), zs_row, t]
  have r9 : zOpP S x y 9 = zu (S 9) P y := by unfold zOpP; rw [zs_other (by decide), zs_row, zs_other (by decide), t]
  refine zEqv_rows E hN (by unfold zOpP; rw [zs_ne (by decide), zs_other (by decide), zs_other (by decide)]) (fun r a b => by unfold zOpP; rw [zs_other (by omega), zs_other (by omega), zs_other (by omega)]) (fun j h1 h2 => by rw [zu_ne h1, zu_ne (by omega), zu_ne (by omega)]) (by rw [zu_eq, n8]) (fun i hi => ?_)
  rw [n8] at hi
  have hi : i < P + 1 := by omega
  have E9 := E.2.2.2
  rw [r8, r9, zu_ne (show 182 + i ≠ 1 by omega), zu_ne (show 188 + i ≠ 1 by omega), zu_ne (show 182 + i ≠ 188 + P by omega)]
  by_cases z : i = P
  · rw [z, zu_eq, zu_eq, zu_eq, zu_eq]; exact ⟨rfl, rfl⟩
  · have q := E9 i (by omega)
    have q1 : c (0 + 182 + i) = S 8 i := q.1
    have q2 : c (0 + 188 + i) = S 9 i := q.2
    rw [Nat.zero_add] at q1 q2
    rw [zu_ne (show 182 + i ≠ 182 + P by omega), zu_ne (show 188 + i ≠ 188 + P by omega), zu_ne (show 188 + i ≠ 182 + P by omega), zu_ne (show i ≠ P from z), zu_ne (show i ≠ P from z)]; exact ⟨q1, q2⟩
/-- presses behind i have moved up, below k -/
def zup (c : Nat → Int) (i k : Nat) : Nat → Int := fun j => if (182 + i ≤ j ∧ j + 1 < 182 + k) ∨ (188 + i ≤ j ∧ j + 1 < 188 + k) then c (j + 1) else c j
theorem zup_0 (c : Nat → Int) (i : Nat) : zup c i (i + 1) = c := by funext j; unfold zup; rw [if_neg (by omega)]
theorem zup_s {k : Nat} (h1 : i < k) (h2 : k < 6) : zu (zu (zup c i k) (182 + k - 1) (zup c i k (182 + k))) (188 + k - 1) (zu (zup c i k) (182 + k - 1) (zup c i k (182 + k)) (188 + k)) = zup c i (k + 1) := by
  have a1 : zup c i k (182 + k) = c (182 + k) := by unfold zup; rw [if_neg (by omega)]
  have a2 : zup c i k (188 + k) = c (188 + k) := by unfold zup; rw [if_neg (by omega)]
  rw [zu_ne (show 188 + k ≠ 182 + k - 1 by omega), a1, a2]
  funext j
  by_cases z1 : j = 188 + k - 1
  · rw [z1, zu_eq]; unfold zup; rw [if_pos (by omega), show 188 + k - 1 + 1 = 188 + k by omega]
  · rw [zu_ne z1]
    by_cases z2 : j = 182 + k - 1
    · rw [z2, zu_eq]; unfold zup; rw [if_pos (by omega), show 182 + k - 1 + 1 = 182 + k by omega]
    · rw [zu_ne z2]
      unfold zup
      by_cases y : (182 + i ≤ j ∧ j + 1 < 182 + k) ∨ (188 + i ≤ j ∧ j + 1 < 188 + k)
      · rw [if_pos y, if_pos (by omega)]
      · rw [if_neg y, if_neg (by omega)]
theorem zOpU_eqv (E : zEqv S (zMw c 0)) (hN : zN S ≤ 12) (eP : S 0 8 = (P : Int)) (hP : P ≤ 6) (hi : i < P) : zEqv (zOpU S i) (zMw (zu (zup c i P) 1 ((P : Int) - 1)) 0) := by
  obtain ⟨u1, u2, u3, u4, u5⟩ := zOpU_is S i
  have n8 : zOpU S i 0 8 = (P : Int) - 1 := by rw [u1, zu_eq, eP]
  refine zEqv_rows E hN (by rw [u1, zu_ne (by decide)]) (fun r a b => u5 r (by omega) (by omega) (by omega)) (fun j h1 h2 => by rw [zu_ne h1]; unfold zup; rw [if_neg (by omega)]) (by rw [zu_eq, n8]) (fun j hj => ?_)
  rw [n8] at hj
  have hj : j + 1 < P := by omega
  rw [zu_ne (by omega), zu_ne (by omega)]
  have E9 := E.2.2.2
  have q : ∀ i, i < P → c (182 + i) = S 8 i ∧ c (188 + i) = S 9 i := fun i hi => by
    have q := E9 i (by omega)
    have q1 : c (0 + 182 + i) = S 8 i := q.1
    have q2 : c (0 + 188 + i) = S 9 i := q.2
    rw [Nat.zero_add] at q1 q2
    exact ⟨q1, q2⟩
  unfold zup
  by_cases z : j < i
  · rw [if_neg (by omega), if_neg (by omega), (u2 j z).1, (u2 j z).2]; exact q j (by omega)
  · rw [if_pos (by omega), if_pos (by omega), (u3 j (by omega) (by rw [eP]; omega)).1, (u3 j (by omega) (by rw [eP]; omega)).2]; exact q (j + 1) (by omega)
end PR
theorem w_Md_press {G : zG} {X : zX} {n : Nat} {σ : zSt} {x t : Int} {τ : zSt} {p : Nat} {S : zSt} (hn : 220 ≤ n) (hF : zFine S) (hS : zMc σ S) (hk : 0 ≤ σ 189 1 ∧ σ 189 1 ≤ 8) (hx : 0 ≤ x ∧ x ≤ 3) (ht : 0 ≤ t ∧ t ≤ 1999) (a0 : zAF σ τ) (s0 : τ 189 2 = 0) (c0 : τ 190 = σ 190) (k0 : τ 189 1 = σ 189 1) (eP : S 0 8 = (p : Int)) (p6 : p < 6)  : ∀ (m : Nat) (i : Nat) (x4 : Int), x4 = (i : Int) → (∀ j, j < i → ¬ (S 8 j = x ∧ S 9 j = t)) → i ≤ p → p < i + m → Go G X m_Md_press (2, 0, 0, 0, 0) n SH τ 58 [(0, vr G 189), (1, vi x), (2, vi t), (3, vi (p : Int)), (4, vi x4)] [] (zI n SH (fun a σ' => zAcM σ σ' a (if x < 0 ∨ 3 < x ∨ ¬ (0 ≤ t ∧ t ≤ 1999) then 1 else if 6 ≤ S 0 8 then 3 else if zany (fun j => decide (S 8 j = x ∧ S 9 j = t)) (S 0 8).toNat = true then 4 else 0) (S 0 8 + 1) S (zOpP S x t))) := by
  intro m
  induction m with
  | zero => intro i x4 e4 hb hi hm; exact absurd hm (by omega)
  | succ m ih =>
    intro i x4 e4 hb hi hm
    subst e4
    have hT : zMc τ S := hS.moved c0
    have hN := hS.N
    have hz : zN S = (S 0 0).toNat := rfl
    have tp : (S 0 8).toNat = p := by omega
    refine g_iload (i := 4) (by decide +kernel) rfl ?_
    refine g_iload_n (i := 3) (by decide +kernel) rfl ?_
    refine g_icmp_ge (off := 45) (tgt := 106) (by decide +kernel) (by decide) ⟨by omega, by omega⟩ ⟨by omega, by omega⟩ (fun h61 => ?_) (fun h61 => ?_)
    · refine g_aload_n (i := 0) (by decide +kernel) rfl ?_
      refine g_cVV (st := _) (c_Md_keeps hn (by rw [k0]; exact hk)) k_Md_keeps l_Md_323 (by decide +kernel) (by omega) rfl rfl rfl rfl (Nat.le_of_ble_eq_true rfl) (by decide) ⟨by decide, by decide⟩ ?_
      rintro φ hφ
      refine g_aload_n (i := 0) (by decide +kernel) rfl ?_
      refine g_getr f_Md_7 (by decide +kernel) (by omega) rfl rfl ?_
      refine g_sipush (a := 182) (by decide +kernel) (by decide) ?_
      refine g_iload_n (i := 3) (by decide +kernel) rfl ?_
      refine g_iadd (by decide +kernel) ?_
      refine g_iload_n (i := 1) (by decide +kernel) rfl ?_
      refine g_iast (j := (182 + p)) (by decide +kernel) (by omega) rfl (by omega) (by omega) (by decide) ?_
      refine g_aload_n (i := 0) (by decide +kernel) rfl ?_
      refine g_getr f_Md_7 (by decide +kernel) (by omega) rfl rfl ?_
      refine g_sipush (a := 188) (by decide +kernel) (by decide) ?_
      refine g_iload_n (i := 3) (by decide +kernel) rfl ?_
      refine g_iadd (by decide +kernel) ?_
      refine g_iload_n (i := 2) (by decide +kernel) rfl ?_
      refine g_iast (j := (188 + p)) (by decide +kernel) (by omega) rfl (by omega) (by omega) (by decide) ?_
      obtain ⟨ω, eω⟩ : ∃ ω, ω = zs (zs φ 190 (182 + p) x) 190 (188 + p) t := ⟨_, rfl⟩
      rw [← eω]
      have w1 : ω 190 = zu (zu (φ 190) (182 + p) x) (188 + p) t := by rw [eω, zs_row, zs_row]
      have w0 : ∀ a, a ≠ 190 → ω a = φ a := fun a ha => by rw [eω, zs_other ha, zs_other ha]
      have e1 : ω 190 1 = (p : Int) := by rw [w1, zu_ne (by omega), zu_ne (by omega), hφ.2.2.1 1 (by omega)]; have := hT.p; omega
      refine g_aload_n (i := 0) (by decide +kernel) rfl ?_
      refine g_getr f_Md_7 (by decide +kernel) (by omega) rfl rfl ?_
      refine g_iconst (a := 1) (by decide +kernel) ?_
      refine g_dup2 (by decide +kernel) rfl rfl ?_
      refine g_iald (j := 1) (by decide +kernel) (by omega) rfl (by omega) (by omega) (by decide) ?_
      refine g_iconst (a := 1) (by decide +kernel) ?_
      refine g_iadd (by decide +kernel) ?_
      refine g_iast (j := 1) (by decide +kernel) (by omega) rfl (by omega) (by omega) (by decide) ?_
      refine g_iload_n (i := 3) (by decide +kernel) rfl ?_
      refine g_iconst (a := 1) (by decide +kernel) ?_
      refine g_iadd (by decide +kernel) ?_
      refine g_retI (by decide +kernel) rfl (Or.inl rfl) ⟨by decide, by decide⟩ ?_
      have F2 := zOpP_fin hF.1 (x := x) (y := t) (by omega) hx ht
      refine zAcM.st (src := 0) a0 s0 k0 hk hS (fun j hj => by rw [Nat.zero_add, c0]) (fun j _ _ => by rw [c0]) F2.1.b hφ ⟨fun a ha => by rw [zs_other ha, w0 a ha], fun j h1 h2 => ?_⟩ ?_ ?_ (by omega)
      · rw [zs_row, zu_ne (by omega), w1, zu_ne (by omega), zu_ne (by omega)]
      · rw [zs_row, e1, w1]
        exact zOpP_eqv (zMw_blk hS.b (c := σ 190) (o := 0) (fun j hj => by rw [hφ.2.2.1 _ (by omega), c0]) hS.1) (by omega) eP p6
      · rw [if_neg (by omega), if_neg (by omega), if_neg]
        intro y
        obtain ⟨j, h1, h2⟩ := zany_iff.mp y
        exact hb j (by omega) (of_decide_eq_true h2)
    · have q8 := hT.ky (show i < (S 0 8).toNat by omega)
      have q9 := hT.tm (show i < (S 0 8).toNat by omega)
      have rp := hT.pr (show i < 6 by omega)
      refine g_aload_n (i := 0) (by decide +kernel) rfl ?_
      refine g_getr f_Md_7 (by decide +kernel) (by omega) rfl rfl ?_
      refine g_sipush (a := 182) (by decide +kernel) (by decide) ?_
      refine g_iload (i := 4) (by decide +kernel) rfl ?_
      refine g_iadd (by decide +kernel) ?_
      refine g_iald (j := (182 + i)) (by decide +kernel) (by omega) rfl (by omega) (by omega) (by decide) ?_
      refine g_iload_n (i := 1) (by decide +kernel) rfl ?_
      refine g_icmp_ne (off := 24) (tgt := 100) (by decide +kernel) (by decide) ⟨by omega, by omega⟩ ⟨by omega, by omega⟩ (fun h76 => ?_) (fun h76 => ?_)
      · refine g_iinc (i := 4) (b := 1) (L' := [(0, _), (1, _), (2, _), (3, _), (4, _)]) (by decide +kernel) rfl rfl rfl ?_
        refine g_goto (off := -45) (tgt := 58) (by decide +kernel) (by decide) ?_
        refine ih (i + 1) _ (by push_cast; rfl) (fun j hj => ?_) (by omega) (by omega)
        by_cases z : j = i
        · rw [z]; omega
        · exact hb j (by omega)
      · refine g_aload_n (i := 0) (by decide +kernel) rfl ?_
        refine g_getr f_Md_7 (by decide +kernel) (by omega) rfl rfl ?_
        refine g_sipush (a := 188) (by decide +kernel) (by decide) ?_
        refine g_iload (i := 4) (by decide +kernel) rfl ?_
        refine g_iadd (by decide +kernel) ?_
        refine g_iald (j := (188 + i)) (by decide +kernel) (by omega) rfl (by omega) (by omega) (by decide) ?_
        refine g_iload_n (i := 2) (by decide +kernel) rfl ?_
        refine g_icmp_ne (off := 9) (tgt := 100) (by decide +kernel) (by decide) ⟨by omega, by omega⟩ ⟨by omega, by omega⟩ (fun h91 => ?_) (fun h91 => ?_)
        · refine g_iinc (i := 4) (b := 1) (L' := [(0, _), (1, _), (2, _), (3, _), (4, _)]) (by decide +kernel) rfl rfl rfl ?_
          refine g_goto (off := -45) (tgt := 58) (by decide +kernel) (by decide) ?_
          refine ih (i + 1) _ (by push_cast; rfl) (fun j hj => ?_) (by omega) (by omega)
          by_cases z : j = i
          · rw [z]; omega
          · exact hb j (by omega)
        · refine g_aload_n (i := 0) (by decide +kernel) rfl ?_
          refine g_iconst (a := 4) (by decide +kernel) ?_
          refine g_cVI (st := _) (c_Md_refuse hn) k_Md_refuse l_Md_295 (by decide +kernel) (by omega) rfl rfl rfl rfl (Nat.le_of_ble_eq_true rfl) (by decide) ⟨by decide, by decide⟩ ?_
          rintro a9 σ9 ⟨ea9, hσ9⟩
          obtain rfl := ea9.symm
          subst hσ9
          refine g_retI (by decide +kernel) rfl (Or.inl rfl) ⟨by decide, by decide⟩ ?_
          exact zAcM.no0 a0 k0 c0 hS (by rw [if_neg (by omega), if_neg (by omega), if_pos (zany_t (i := i) (decide_eq_true (by omega)) (by omega))]) (by decide)
theorem c_Md_press {G : zG} {n : Nat} {σ : zSt} {x t : Int} {S : zSt} (hn : 220 ≤ n) (hF : zFine S) (hS : zMc σ S) (hk : 0 ≤ σ 189 1 ∧ σ 189 1 ≤ 8) (z1 : zr x) (z2 : zr t) : Gm G y_Md_press m_Md_press 2 0 0 [vr G 189, vi x, vi t] n SH σ (zI n SH (fun a σ' => zAcM σ σ' a (if x < 0 ∨ 3 < x ∨ ¬ (0 ≤ t ∧ t ≤ 1999) then 1 else if 6 ≤ S 0 8 then 3 else if zany (fun j => decide (S 8 j = x ∧ S 9 j = t)) (S 0 8).toNat = true then 4 else 0) (S 0 8 + 1) S (zOpP S x t))) := by
  refine g_enter (L := [(0, _), (1, _), (2, _)]) (by decide) rfl rfl rfl (Nat.le_of_ble_eq_true rfl) (fun X => ?_)
  have e0 := hS.n
  have e8 := hS.p
  have hN := hS.N
  have hz : zN S = (S 0 0).toNat := rfl
  obtain ⟨z1a, z1b⟩ := id z1
  obtain ⟨z2a, z2b⟩ := id z2
  refine g_aload_n (i := 0) (by decide +kernel) rfl ?_
  refine g_iconst (a := 0) (by decide +kernel) ?_
  refine g_puti f_Md_142 (by decide +kernel) (by omega) rfl rfl ?_
  refine g_aload_n (i := 0) (by decide +kernel) rfl ?_
  refine g_iconst (a := 0) (by decide +kernel) ?_
  refine g_puti f_Md_145 (by decide +kernel) (by omega) rfl rfl ?_
  obtain ⟨τ, eτ⟩ : ∃ τ, τ = zs (zs σ 189 3 0) 189 2 0 := ⟨_, rfl⟩
  rw [← eτ]
  have a0 : zAF σ τ := by rw [eτ]; exact ((zAF.rf σ).put (by decide)).put (by decide)
  have s0 : τ 189 2 = 0 := by rw [eτ, zs_eq]
  have c0 : τ 190 = σ 190 := by rw [eτ, zs_other (by decide), zs_other (by decide)]
  have k0 : τ 189 1 = σ 189 1 := by rw [eτ, zs_ne (by decide), zs_ne (by decide)]
  have hT : zMc τ S := hS.moved c0
  have et := hT.n
  have ep := hT.p
  refine g_iload_n (i := 1) (by decide +kernel) rfl ?_
  refine g_iconst (a := 0) (by decide +kernel) ?_
  refine g_iconst (a := 3) (by decide +kernel) ?_
  refine g_cSI (st := _) (c_Md_isIn ⟨by omega, by omega⟩ ⟨by omega, by omega⟩ ⟨by omega, by omega⟩) k_Md_isIn l_Md_152 (by decide +kernel) rfl rfl (Nat.le_of_ble_eq_true rfl) (by decide) ⟨by decide, by decide⟩ ?_
  rintro a9 σ9 ⟨ea9, hσ9⟩
  obtain rfl := hσ9.symm
  subst ea9
  refine g_if_eq (off := 14) (tgt := 30) (by decide +kernel) (by decide) zbr (fun h16 => ?_) (fun h16 => ?_)
  · have h16 := zb0.mp h16
    refine g_aload_n (i := 0) (by decide +kernel) rfl ?_
    refine g_iconst (a := 1) (by decide +kernel) ?_
    refine g_cVI (st := _) (c_Md_refuse hn) k_Md_refuse l_Md_295 (by decide +kernel) (by omega) rfl rfl rfl rfl (Nat.le_of_ble_eq_true rfl) (by decide) ⟨by decide, by decide⟩ ?_
    rintro a9 σ9 ⟨ea9, hσ9⟩
    obtain rfl := ea9.symm
    subst hσ9
    refine g_retI (by decide +kernel) rfl (Or.inl rfl) ⟨by decide, by decide⟩ ?_
    exact zAcM.no0 a0 k0 c0 hS (if_pos (by omega)) (by decide)
  · have h16 := zb1.mp h16
    refine g_iload_n (i := 2) (by decide +kernel) rfl ?_
    refine g_iconst (a := 0) (by decide +kernel) ?_
    refine g_sipush (a := 1999) (by decide +kernel) (by decide) ?_
    refine g_cSI (st := _) (c_Md_isIn ⟨by omega, by omega⟩ ⟨by omega, by omega⟩ ⟨by omega, by omega⟩) k_Md_isIn l_Md_152 (by decide +kernel) rfl rfl (Nat.le_of_ble_eq_true rfl) (by decide) ⟨by decide, by decide⟩ ?_
    rintro a9 σ9 ⟨ea9, hσ9⟩
    obtain rfl := hσ9.symm
    subst ea9
    refine g_if_ne (off := 9) (tgt := 36) (by decide +kernel) (by decide) zbr (fun h27 => ?_) (fun h27 => ?_)
    · have h27 := zb1.mp h27
      refine g_aload_n (i := 0) (by decide +kernel) rfl ?_
      refine g_getr f_Md_7 (by decide +kernel) (by omega) rfl rfl ?_
      refine g_iconst (a := 1) (by decide +kernel) ?_
      refine g_iald (j := 1) (by decide +kernel) (by omega) rfl (by omega) (by omega) (by decide) ?_
      obtain ⟨p, eP⟩ := Int.eq_ofNat_of_zero_le hN.2.2.1
      have e1 : τ 190 1 = (p : Int) := by omega
      rw [e1]
      refine g_istore_n (i := 3) (L' := [(0, _), (1, _), (2, _), (3, _)]) (by decide +kernel) rfl rfl ?_
      refine g_iload_n (i := 3) (by decide +kernel) rfl ?_
      refine g_bipush (a := 6) (by decide +kernel) (by decide) ?_
      refine g_icmp_ne (off := 9) (tgt := 55) (by decide +kernel) (by decide) ⟨by omega, by omega⟩ ⟨by omega, by omega⟩ (fun h46 => ?_) (fun h46 => ?_)
      · refine g_iconst (a := 0) (by decide +kernel) ?_
        refine g_istore (i := 4) (L' := [(0, _), (1, _), (2, _), (3, _), (4, _)]) (by decide +kernel) rfl rfl ?_
        exact w_Md_press hn hF hS hk (by omega) (by omega) a0 s0 c0 k0 eP (by omega) (p + 1) 0 _ rfl (fun j hj => by omega) (by omega) (by omega)
      · refine g_aload_n (i := 0) (by decide +kernel) rfl ?_
        refine g_iconst (a := 3) (by decide +kernel) ?_
        refine g_cVI (st := _) (c_Md_refuse hn) k_Md_refuse l_Md_295 (by decide +kernel) (by omega) rfl rfl rfl rfl (Nat.le_of_ble_eq_true rfl) (by decide) ⟨by decide, by decide⟩ ?_
        rintro a9 σ9 ⟨ea9, hσ9⟩
        obtain rfl := ea9.symm
        subst hσ9
        refine g_retI (by decide +kernel) rfl (Or.inl rfl) ⟨by decide, by decide⟩ ?_
        exact zAcM.no0 a0 k0 c0 hS (by rw [if_neg (by omega), if_pos (by omega)]) (by decide)
    · have h27 := zb0.mp h27
      refine g_aload_n (i := 0) (by decide +kernel) rfl ?_
      refine g_iconst (a := 1) (by decide +kernel) ?_
      refine g_cVI (st := _) (c_Md_refuse hn) k_Md_refuse l_Md_295 (by decide +kernel) (by omega) rfl rfl rfl rfl (Nat.le_of_ble_eq_true rfl) (by decide) ⟨by decide, by decide⟩ ?_
      rintro a9 σ9 ⟨ea9, hσ9⟩
      obtain rfl := ea9.symm
      subst hσ9
      refine g_retI (by decide +kernel) rfl (Or.inl rfl) ⟨by decide, by decide⟩ ?_
      exact zAcM.no0 a0 k0 c0 hS (if_pos (by omega)) (by decide)
theorem w_Md_unpress {G : zG} {X : zX} {n : Nat} {σ : zSt} {τ φ : zSt} {p q : Nat} {S : zSt} (hn : 220 ≤ n) (hF : zFine S) (hS : zMc σ S) (hk : 0 ≤ σ 189 1 ∧ σ 189 1 ≤ 8) (a0 : zAF σ τ) (s0 : τ 189 2 = 0) (c0 : τ 190 = σ 190) (k0 : τ 189 1 = σ 189 1) (eP : S 0 8 = (p : Int)) (p6 : p ≤ 6) (hq : q < p) (hφ : (∀ a, a ≠ 189 → a ≠ 190 → φ a = τ a) ∧ (∀ j, j ≠ 1 → φ 189 j = τ 189 j) ∧ (∀ j, (j < 194 ∨ 1746 ≤ j) → φ 190 j = τ 190 j) ∧ zPsh τ φ 0)  : ∀ (m : Nat) (i : Nat) (x2 : Int), x2 = (i : Int) → q < i → i ≤ p → p < i + m → Go G X m_Md_unpress (2, 0, 0, 0, 0) n SH (zrow φ 190 (zup (φ 190) q i)) 45 [(0, vr G 189), (1, vi (q : Int)), (2, vi x2)] [] (zI n SH (fun a σ' => zAcM σ σ' a (if (q : Int) < 0 then 1 else if S 0 8 ≤ (q : Int) then 8 else 0) (S 0 8 - 1) S (zOpU S q))) := by
  intro m
  induction m with
  | zero => intro i x2 e2 qi hi hm; exact absurd hm (by omega)
  | succ m ih =>
    intro i x2 e2 qi hi hm
    subst e2
    have hT : zMc τ S := hS.moved c0
    have hN := hS.N
    have hz : zN S = (S 0 0).toNat := rfl
    have r1 : ∀ j, (zrow φ 190 (zup (φ 190) q i)) 190 j = zup (φ 190) q i j := fun j => by rw [zrow_eq]
    have e1 : (zrow φ 190 (zup (φ 190) q i)) 190 1 = (p : Int) := by rw [r1]; unfold zup; rw [if_neg (by omega), hφ.2.2.1 1 (by omega)]; have := hT.p; omega
    refine g_iload_n (i := 2) (by decide +kernel) rfl ?_
    refine g_aload_n (i := 0) (by decide +kernel) rfl ?_
    refine g_getr f_Md_7 (by decide +kernel) (by omega) rfl rfl ?_
    refine g_iconst (a := 1) (by decide +kernel) ?_
    refine g_iald (j := 1) (by decide +kernel) (by omega) rfl (by omega) (by omega) (by decide) ?_
    refine g_icmp_ge (off := 53) (tgt := 105) (by decide +kernel) (by decide) ⟨by omega, by omega⟩ ⟨by omega, by omega⟩ (fun h52 => ?_) (fun h52 => ?_)
    · refine g_aload_n (i := 0) (by decide +kernel) rfl ?_
      refine g_getr f_Md_7 (by decide +kernel) (by omega) rfl rfl ?_
      refine g_iconst (a := 1) (by decide +kernel) ?_
      refine g_dup2 (by decide +kernel) rfl rfl ?_
      refine g_iald (j := 1) (by decide +kernel) (by omega) rfl (by omega) (by omega) (by decide) ?_
      refine g_iconst (a := 1) (by decide +kernel) ?_
      refine g_isub (by decide +kernel) ?_
      refine g_iast (j := 1) (by decide +kernel) (by omega) rfl (by omega) (by omega) (by decide) ?_
      refine g_aload_n (i := 0) (by decide +kernel) rfl ?_
      refine g_getr f_Md_7 (by decide +kernel) (by omega) rfl rfl ?_
      refine g_iconst (a := 1) (by decide +kernel) ?_
      refine g_iald (j := 1) (by decide +kernel) (by omega) rfl (by omega) (by omega) (by decide) ?_
      refine g_retI (by decide +kernel) rfl (Or.inl rfl) ⟨by decide, by decide⟩ ?_
      obtain rfl : i = p := by omega
      have F2 := zOpU_fin hF.1 (i := q) (by omega) (zOpU_is S q)
      refine zAcM.st (src := 0) a0 s0 k0 hk hS (fun j hj => by rw [Nat.zero_add, c0]) (fun j _ _ => by rw [c0]) F2.1.b hφ ⟨fun a ha => by rw [zs_other ha, zrow_ne ha], fun j h1 h2 => ?_⟩ ?_ (by rw [if_neg (by omega), if_neg (by omega)]) ?_
      · rw [zs_zrow, zrow_eq, zu_ne (by omega)]; unfold zup; rw [if_neg (by omega)]
      · rw [zs_zrow, zrow_eq, e1]
        exact zOpU_eqv (zMw_blk hS.b (c := σ 190) (o := 0) (fun j hj => by rw [hφ.2.2.1 _ (by omega), c0]) hS.1) (by omega) eP p6 hq
      · rw [zs_zrow, zrow_eq, zu_eq, e1, eP]
    · refine g_aload_n (i := 0) (by decide +kernel) rfl ?_
      refine g_getr f_Md_7 (by decide +kernel) (by omega) rfl rfl ?_
      refine g_sipush (a := 182) (by decide +kernel) (by decide) ?_
      refine g_iload_n (i := 2) (by decide +kernel) rfl ?_
      refine g_iadd (by decide +kernel) ?_
      refine g_iconst (a := 1) (by decide +kernel) ?_
      refine g_isub (by decide +kernel) ?_
      refine g_aload_n (i := 0) (by decide +kernel) rfl ?_
      refine g_getr f_Md_7 (by decide +kernel) (by omega) rfl rfl ?_
      refine g_sipush (a := 182) (by decide +kernel) (by decide) ?_
      refine g_iload_n (i := 2) (by decide +kernel) rfl ?_
      refine g_iadd (by decide +kernel) ?_
      refine g_iald (j := (182 + i)) (by decide +kernel) (by omega) rfl (by omega) (by omega) (by decide) ?_
      refine g_iast (j := (182 + i - 1)) (by decide +kernel) (by omega) rfl (by omega) (by omega) (by decide) ?_
      refine g_aload_n (i := 0) (by decide +kernel) rfl ?_
      refine g_getr f_Md_7 (by decide +kernel) (by omega) rfl rfl ?_
      refine g_sipush (a := 188) (by decide +kernel) (by decide) ?_
      refine g_iload_n (i := 2) (by decide +kernel) rfl ?_
      refine g_iadd (by decide +kernel) ?_
      refine g_iconst (a := 1) (by decide +kernel) ?_
      refine g_isub (by decide +kernel) ?_
      refine g_aload_n (i := 0) (by decide +kernel) rfl ?_
      refine g_getr f_Md_7 (by decide +kernel) (by omega) rfl rfl ?_
      refine g_sipush (a := 188) (by decide +kernel) (by decide) ?_
      refine g_iload_n (i := 2) (by decide +kernel) rfl ?_
      refine g_iadd (by decide +kernel) ?_
      refine g_iald (j := (188 + i)) (by decide +kernel) (by omega) rfl (by omega) (by omega) (by decide) ?_
      refine g_iast (j := (188 + i - 1)) (by decide +kernel) (by omega) rfl (by omega) (by omega) (by decide) ?_
      refine g_iinc (i := 2) (b := 1) (L' := [(0, _), (1, _), (2, _)]) (by decide +kernel) rfl rfl rfl ?_
      refine g_goto (off := -57) (tgt := 45) (by decide +kernel) (by decide) ?_
      have hs : zs (zs (zrow φ 190 (zup (φ 190) q i)) 190 (182 + i - 1) (zrow φ 190 (zup (φ 190) q i) 190 (182 + i))) 190 (188 + i - 1) (zs (zrow φ 190 (zup (φ 190) q i)) 190 (182 + i - 1) (zrow φ 190 (zup (φ 190) q i) 190 (182 + i)) 190 (188 + i)) = zrow φ 190 (zup (φ 190) q (i + 1)) := by
        rw [zs_zrow, zrow_eq, zs_zrow, zrow_eq, zup_s qi (by omega)]
      rw [hs]
      exact ih (i + 1) _ (by push_cast; rfl) (by omega) (by omega) (by omega)
theorem c_Md_unpress {G : zG} {n : Nat} {σ : zSt} {i : Int} {S : zSt} (hn : 220 ≤ n) (hF : zFine S) (hS : zMc σ S) (hk : 0 ≤ σ 189 1 ∧ σ 189 1 ≤ 8) (z1 : zr i) : Gm G y_Md_unpress m_Md_unpress 2 0 0 [vr G 189, vi i] n SH σ (zI n SH (fun a σ' => zAcM σ σ' a (if i < 0 then 1 else if S 0 8 ≤ i then 8 else 0) (S 0 8 - 1) S (zOpU S i.toNat))) := by
  refine g_enter (L := [(0, _), (1, _)]) (by decide) rfl rfl rfl (Nat.le_of_ble_eq_true rfl) (fun X => ?_)
  have e0 := hS.n
  have e8 := hS.p
  have hN := hS.N
  have hz : zN S = (S 0 0).toNat := rfl
  obtain ⟨z1a, z1b⟩ := id z1
  refine g_aload_n (i := 0) (by decide +kernel) rfl ?_
  refine g_iconst (a := 0) (by decide +kernel) ?_
  refine g_puti f_Md_142 (by decide +kernel) (by omega) rfl rfl ?_
  refine g_aload_n (i := 0) (by decide +kernel) rfl ?_
  refine g_iconst (a := 0) (by decide +kernel) ?_
  refine g_puti f_Md_145 (by decide +kernel) (by omega) rfl rfl ?_
  obtain ⟨τ, eτ⟩ : ∃ τ, τ = zs (zs σ 189 3 0) 189 2 0 := ⟨_, rfl⟩
  rw [← eτ]
  have a0 : zAF σ τ := by rw [eτ]; exact ((zAF.rf σ).put (by decide)).put (by decide)
  have s0 : τ 189 2 = 0 := by rw [eτ, zs_eq]
  have c0 : τ 190 = σ 190 := by rw [eτ, zs_other (by decide), zs_other (by decide)]
  have k0 : τ 189 1 = σ 189 1 := by rw [eτ, zs_ne (by decide), zs_ne (by decide)]
  have hT : zMc τ S := hS.moved c0
  have et := hT.n
  have ep := hT.p
  refine g_iload_n (i := 1) (by decide +kernel) rfl ?_
  refine g_if_ge (off := 9) (tgt := 20) (by decide +kernel) (by decide) ⟨by omega, by omega⟩ (fun h11 => ?_) (fun h11 => ?_)
  · refine g_iload_n (i := 1) (by decide +kernel) rfl ?_
    refine g_aload_n (i := 0) (by decide +kernel) rfl ?_
    refine g_getr f_Md_7 (by decide +kernel) (by omega) rfl rfl ?_
    refine g_iconst (a := 1) (by decide +kernel) ?_
    refine g_iald (j := 1) (by decide +kernel) (by omega) rfl (by omega) (by omega) (by decide) ?_
    refine g_icmp_lt (off := 10) (tgt := 37) (by decide +kernel) (by decide) ⟨by omega, by omega⟩ ⟨by omega, by omega⟩ (fun h27 => ?_) (fun h27 => ?_)
    · obtain ⟨p, eP⟩ := Int.eq_ofNat_of_zero_le hN.2.2.1
      obtain ⟨q, rfl⟩ := Int.eq_ofNat_of_zero_le (show 0 ≤ i by omega)
      refine g_aload_n (i := 0) (by decide +kernel) rfl ?_
      refine g_cVV (st := _) (c_Md_keeps hn (by rw [k0]; exact hk)) k_Md_keeps l_Md_323 (by decide +kernel) (by omega) rfl rfl rfl rfl (Nat.le_of_ble_eq_true rfl) (by decide) ⟨by decide, by decide⟩ ?_
      rintro φ hφ
      refine g_iload_n (i := 1) (by decide +kernel) rfl ?_
      refine g_iconst (a := 1) (by decide +kernel) ?_
      refine g_iadd (by decide +kernel) ?_
      refine g_istore_n (i := 2) (L' := [(0, _), (1, _), (2, _)]) (by decide +kernel) rfl rfl ?_
      rw [Int.toNat_natCast]
      refine g_eq (σ' := zrow φ 190 (zup (φ 190) q (q + 1))) ?_ (by rw [zup_0, zrow_id]) rfl rfl
      exact w_Md_unpress hn hF hS hk a0 s0 c0 k0 eP (by omega) (by omega) hφ (p + 1) (q + 1) _ (by push_cast; rfl) (by omega) (by omega) (by omega)
    · refine g_aload_n (i := 0) (by decide +kernel) rfl ?_
      refine g_bipush (a := 8) (by decide +kernel) (by decide) ?_
      refine g_cVI (st := _) (c_Md_refuse hn) k_Md_refuse l_Md_295 (by decide +kernel) (by omega) rfl rfl rfl rfl (Nat.le_of_ble_eq_true rfl) (by decide) ⟨by decide, by decide⟩ ?_
      rintro a9 σ9 ⟨ea9, hσ9⟩
      obtain rfl := ea9.symm
      subst hσ9
      refine g_retI (by decide +kernel) rfl (Or.inl rfl) ⟨by decide, by decide⟩ ?_
      exact zAcM.no0 a0 k0 c0 hS (by rw [if_neg (by omega), if_pos (by omega)]) (by decide)
  · refine g_aload_n (i := 0) (by decide +kernel) rfl ?_
    refine g_iconst (a := 1) (by decide +kernel) ?_
    refine g_cVI (st := _) (c_Md_refuse hn) k_Md_refuse l_Md_295 (by decide +kernel) (by omega) rfl rfl rfl rfl (Nat.le_of_ble_eq_true rfl) (by decide) ⟨by decide, by decide⟩ ?_
    rintro a9 σ9 ⟨ea9, hσ9⟩
    obtain rfl := ea9.symm
    subst hσ9
    refine g_retI (by decide +kernel) rfl (Or.inl rfl) ⟨by decide, by decide⟩ ?_
    exact zAcM.no0 a0 k0 c0 hS (if_pos (by omega)) (by decide)
theorem c_Md_undo {G : zG} {n : Nat} {σ : zSt} {S : zSt} (hn : 220 ≤ n) (hF : zFine S) (hS : zMc σ S) (hk : 0 ≤ σ 189 1 ∧ σ 189 1 ≤ 8)  : Gm G y_Md_undo m_Md_undo 1 0 0 [vr G 189] n SH σ (zI n SH (fun a σ' => (σ 189 1 = 0 ∧ zAcM σ σ' a 8 0 S S) ∨ (σ 189 1 ≠ 0 ∧ a = σ 189 1 - 1 ∧ zAF σ σ' ∧ σ' 189 2 = 0 ∧ σ' 189 1 = σ 189 1 - 1 ∧ (∀ j, j < 194 → σ' 190 j = σ 190 (194 * (σ 189 1).toNat + j)) ∧ ∀ j, 194 ≤ j → σ' 190 j = σ 190 j))) := by
  refine g_enter (L := [(0, _)]) (by decide) rfl rfl rfl (Nat.le_of_ble_eq_true rfl) (fun X => ?_)
  have e0 := hS.n
  have e8 := hS.p
  have hN := hS.N
  have hz : zN S = (S 0 0).toNat := rfl
  refine g_aload_n (i := 0) (by decide +kernel) rfl ?_
  refine g_iconst (a := 0) (by decide +kernel) ?_
  refine g_puti f_Md_142 (by decide +kernel) (by omega) rfl rfl ?_
  refine g_aload_n (i := 0) (by decide +kernel) rfl ?_
  refine g_iconst (a := 0) (by decide +kernel) ?_
  refine g_puti f_Md_145 (by decide +kernel) (by omega) rfl rfl ?_
  obtain ⟨τ, eτ⟩ : ∃ τ, τ = zs (zs σ 189 3 0) 189 2 0 := ⟨_, rfl⟩
  rw [← eτ]
  have a0 : zAF σ τ := by rw [eτ]; exact ((zAF.rf σ).put (by decide)).put (by decide)
  have s0 : τ 189 2 = 0 := by rw [eτ, zs_eq]
  have c0 : τ 190 = σ 190 := by rw [eτ, zs_other (by decide), zs_other (by decide)]
  have k0 : τ 189 1 = σ 189 1 := by rw [eτ, zs_ne (by decide), zs_ne (by decide)]
  have hT : zMc τ S := hS.moved c0
  have et := hT.n
  have ep := hT.p
  refine g_aload_n (i := 0) (by decide +kernel) rfl ?_
  refine g_geti f_Md_156 (by decide +kernel) (by omega) rfl rfl ?_
  refine g_if_ne (off := 10) (tgt := 24) (by decide +kernel) (by decide) ⟨by omega, by omega⟩ (fun h14 => ?_) (fun h14 => ?_)
  · refine g_aload_n (i := 0) (by decide +kernel) rfl ?_
    refine g_sipush (a := 194) (by decide +kernel) (by decide) ?_
    refine g_aload_n (i := 0) (by decide +kernel) rfl ?_
    refine g_geti f_Md_156 (by decide +kernel) (by omega) rfl rfl ?_
    refine g_imul (by decide +kernel) ?_
    refine g_iconst (a := 0) (by decide +kernel) ?_
    obtain ⟨m, em⟩ := Int.eq_ofNat_of_zero_le hk.1
    rw [k0, em, show (194 : Int) * (m : Int) = ((194 * m : Nat) : Int) by omega]
    refine g_cVV (st := _) (c_Md_copy (f := 194 * m) (t := 0) hn (by omega) (by omega) (by omega)) k_Md_copy l_Md_159 (by decide +kernel) (by omega) rfl rfl rfl rfl (Nat.le_of_ble_eq_true rfl) (by decide) ⟨by decide, by decide⟩ ?_
    rintro ω hω
    have w0 : ∀ a, a ≠ 190 → ω a = τ a := fun a ha => by rw [hω, zrow_ne ha]
    have w1 : ω 190 = zcb (σ 190) (194 * m) 0 194 := by rw [hω, zrow_eq, c0]
    refine g_aload_n (i := 0) (by decide +kernel) rfl ?_
    refine g_dup (by decide +kernel) rfl ?_
    refine g_geti f_Md_156 (by decide +kernel) (by omega) rfl rfl ?_
    refine g_iconst (a := 1) (by decide +kernel) ?_
    refine g_isub (by decide +kernel) ?_
    refine g_puti f_Md_156 (by decide +kernel) (by omega) rfl rfl ?_
    refine g_aload_n (i := 0) (by decide +kernel) rfl ?_
    refine g_geti f_Md_156 (by decide +kernel) (by omega) rfl rfl ?_
    refine g_retI (by decide +kernel) rfl (Or.inl rfl) ⟨by decide, by decide⟩ ?_
    have e1 : ω 189 1 = σ 189 1 := by rw [w0 189 (by decide)]; exact k0
    refine Or.inr ⟨by omega, by rw [zs_eq, e1]; omega, (a0.of (fun a ha => w0 a (by omega))).put (by decide), by rw [zs_ne (by decide), w0 189 (by decide)]; exact s0, by rw [zs_eq, e1]; omega, fun j hj => ?_, fun j hj => ?_⟩
    · rw [zs_other (by decide), w1]; unfold zcb; rw [if_pos (by omega), Int.toNat_natCast, Nat.sub_zero]
    · rw [zs_other (by decide), w1]; unfold zcb; rw [if_neg (by omega)]
  · refine g_aload_n (i := 0) (by decide +kernel) rfl ?_
    refine g_bipush (a := 8) (by decide +kernel) (by decide) ?_
    refine g_cVI (st := _) (c_Md_refuse hn) k_Md_refuse l_Md_295 (by decide +kernel) (by omega) rfl rfl rfl rfl (Nat.le_of_ble_eq_true rfl) (by decide) ⟨by decide, by decide⟩ ?_
    rintro a9 σ9 ⟨ea9, hσ9⟩
    obtain rfl := ea9.symm
    subst hσ9
    refine g_retI (by decide +kernel) rfl (Or.inl rfl) ⟨by decide, by decide⟩ ?_
    exact Or.inl ⟨by omega, zAcM.no0 a0 k0 c0 hS rfl (by decide)⟩
