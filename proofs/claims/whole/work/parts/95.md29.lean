theorem zAcM.st2 {σ τ ρ σ' S S' : zSt} {a w v : Int} {src : Nat} (h : zAF σ ρ) (s1 : ρ 189 2 = 0) (k1 : ρ 189 1 = σ 189 1) (hk : 0 ≤ σ 189 1 ∧ σ 189 1 ≤ 8) (B : zN S ≤ 12 ∧ (S 0 8).toNat ≤ 6) (hd : zEqv S (zMw (ρ 190) src)) (hb : ∀ j, 194 ≤ j → j < 1746 → ρ 190 j = σ 190 j)
    (g : (∀ a, a ≠ 189 → a ≠ 190 → τ a = ρ a) ∧ (∀ j, j ≠ 1 → τ 189 j = ρ 189 j) ∧ (∀ j, (j < 194 ∨ 1746 ≤ j) → τ 190 j = ρ 190 j) ∧ zPsh ρ τ src)
    (f : zAF τ σ' ∧ (∀ j, (j = 1 ∨ j = 2) → σ' 189 j = τ 189 j) ∧ ∀ j, 194 ≤ j → j < 1746 → σ' 190 j = τ 190 j) (E' : zEqv S' (zMw (σ' 190) 0)) (hw : w = 0) (hv : a = v) : zAcM σ σ' a w v S S' := by
  obtain ⟨g1, g2, g3, p1, p2, p3⟩ := g
  obtain ⟨f1, f2, f3⟩ := f
  have e1 : σ' 189 1 = τ 189 1 := f2 1 (Or.inl rfl)
  rw [k1] at p1 p3
  have m8 : (τ 189 1).toNat ≤ 8 ∧ (τ 189 1).toNat ≤ (σ 189 1).toNat + 1 ∧ 1 ≤ (τ 189 1).toNat := by rw [p1]; omega
  refine ⟨(h.tr ⟨fun a ha => g1 a (by omega) (by omega), fun j hj => g2 j (by omega)⟩).tr f1, by rw [f2 2 (Or.inr rfl), g2 2 (by decide), s1]; exact hw.symm, Or.inr ⟨hw, hv, E', by rw [e1]; exact p1, ?_, fun i i1 i2 j hj => ?_⟩⟩
  · rw [e1]
    exact zMw_blk B (c := ρ 190) (o := src) (fun j hj => by rw [f3 _ (by omega) (by omega), p2 j hj]) hd
  · rw [e1] at i2 ⊢
    rw [f3 _ (by omega) (by omega), p3 i i1 i2 j hj, hb _ (by omega) (by omega)]
/-- a new clip in the row -/
theorem zApp_eqv {S : zSt} {c c' : Nat → Int} {x y p : Int} {mk : Nat → Int} (hB : zN S < 12 ∧ (S 0 8).toNat ≤ 6) (h0 : 0 ≤ S 0 0) (E : zEqv S (zMw c 0)) (hmk : ∀ u, u < 9 → mk u = zTab 0 u) (hc : ∀ j, j < 194 → c' j = zu (zwc c 0 (zN S) x y p 0 (-1) 0 mk) 0 (S 0 0 + 1) j) : zEqv (zApp S 0 x y p) (zMw c' 0) := by
  obtain ⟨a0, a1, a2, a3, a4, a5, a6, a7, a8⟩ := zApp_r S x y p
  have hz : zN S = (S 0 0).toNat := rfl
  have n0 : zN (zApp S 0 x y p) = zN S + 1 := by unfold zN; rw [a0, zu_eq]; omega
  obtain ⟨⟨E0, E8⟩, E1, E7, E9⟩ := E
  have E8 : c 1 = S 0 8 := E8
  refine ⟨⟨?_, ?_⟩, fun k hk r h1 h2 => ?_, fun k hk w hw => ?_, fun i hi => ?_⟩
  · show c' 0 = _
    rw [hc 0 (by decide), zu_eq, a0, zu_eq]
  · show c' 1 = _
    rw [hc 1 (by decide), zu_ne (by decide), zwc_o (by omega) (by omega) (by omega) (by omega) (by omega) (by omega) (by omega), a0, zu_ne (by decide)]; exact E8
  · rw [n0] at hk
    by_cases z : k = zN S
    · subst z
      have q : ∀ j, 2 ≤ j → j < 194 → c' j = zwc c 0 (zN S) x y p 0 (-1) 0 mk j := fun j q1 q2 => by rw [hc j q2, zu_ne (by omega)]
      rcases (by omega : r = 1 ∨ r = 2 ∨ r = 3 ∨ r = 4 ∨ r = 5 ∨ r = 6) with rfl | rfl | rfl | rfl | rfl | rfl
      · show c' (0 + 2 + zN S) = _; rw [q _ (by omega) (by omega), zwc_1 (by omega), a1, zu_eq]
      · show c' (0 + 14 + zN S) = _; rw [q _ (by omega) (by omega), zwc_2 (by omega), a2, zu_eq]
      · show c' (0 + 26 + zN S) = _; rw [q _ (by omega) (by omega), zwc_3 (by omega), a3, zu_eq]
      · show c' (0 + 146 + zN S) = _; rw [q _ (by omega) (by omega), zwc_4 (by omega), a4, zu_eq]
      · show c' (0 + 158 + zN S) = _; rw [q _ (by omega) (by omega), zwc_5 (by omega), a5, zu_eq]
      · show c' (0 + 170 + zN S) = _; rw [q _ (by omega) (by omega), zwc_6 (by omega), a6, zu_eq]
    · have e := E1 k (by omega) r h1 h2
      have q : ∀ j, 2 ≤ j → j < 194 → j ≠ 0 + 2 + zN S → j ≠ 0 + 14 + zN S → j ≠ 0 + 26 + zN S → j ≠ 0 + 146 + zN S → j ≠ 0 + 158 + zN S → j ≠ 0 + 170 + zN S → (j < 0 + 38 + 9 * zN S ∨ 0 + 38 + 9 * zN S + 9 ≤ j) → c' j = c j := fun j q1 q2 b1 b2 b3 b4 b5 b6 b7 => by rw [hc j q2, zu_ne (by omega), zwc_o b1 b2 b3 b4 b5 b6 b7]
      rcases (by omega : r = 1 ∨ r = 2 ∨ r = 3 ∨ r = 4 ∨ r = 5 ∨ r = 6) with rfl | rfl | rfl | rfl | rfl | rfl
      · show c' (0 + 2 + k) = _; rw [q _ (by omega) (by omega) (by omega) (by omega) (by omega) (by omega) (by omega) (by omega) (by omega), a1, zu_ne z]; exact e
      · show c' (0 + 14 + k) = _; rw [q _ (by omega) (by omega) (by omega) (by omega) (by omega) (by omega) (by omega) (by omega) (by omega), a2, zu_ne z]; exact e
      · show c' (0 + 26 + k) = _; rw [q _ (by omega) (by omega) (by omega) (by omega) (by omega) (by omega) (by omega) (by omega) (by omega), a3, zu_ne z]; exact e
      · show c' (0 + 146 + k) = _; rw [q _ (by omega) (by omega) (by omega) (by omega) (by omega) (by omega) (by omega) (by omega) (by omega), a4, zu_ne z]; exact e
      · show c' (0 + 158 + k) = _; rw [q _ (by omega) (by omega) (by omega) (by omega) (by omega) (by omega) (by omega) (by omega) (by omega), a5, zu_ne z]; exact e
      · show c' (0 + 170 + k) = _; rw [q _ (by omega) (by omega) (by omega) (by omega) (by omega) (by omega) (by omega) (by omega) (by omega), a6, zu_ne z]; exact e
  · rw [n0] at hk
    show c' (0 + 38 + (9 * k + w)) = _
    rw [show 0 + 38 + (9 * k + w) = 0 + 38 + 9 * k + w by omega, hc _ (by omega), zu_ne (by omega), a7, zmk_k _ _ _ _ hw]
    by_cases z : k = zN S
    · rw [if_pos z, z, zwc_7 (by omega) hw, hmk w hw]
    · rw [if_neg z, zwc_o (by omega) (by omega) (by omega) (by omega) (by omega) (by omega) (by omega)]
      have e : c (0 + 38 + (9 * k + w)) = _ := E7 k (by omega) w hw
      rw [← e, show 0 + 38 + (9 * k + w) = 0 + 38 + 9 * k + w by omega]
  · rw [a0, zu_ne (by decide)] at hi
    have e := E9 i hi
    have e8 : c (0 + 182 + i) = S 8 i := e.1
    have e9 : c (0 + 188 + i) = S 9 i := e.2
    show c' (0 + 182 + i) = _ ∧ c' (0 + 188 + i) = _
    rw [hc _ (by omega), hc _ (by omega), zu_ne (by omega), zu_ne (by omega), zwc_o (by omega) (by omega) (by omega) (by omega) (by omega) (by omega) (by omega), zwc_o (by omega) (by omega) (by omega) (by omega) (by omega) (by omega) (by omega), a8 8 (by decide), a8 9 (by decide)]
    exact ⟨e8, e9⟩
/-- what lies behind the last clip says nothing -/
theorem zEqv_behind {S : zSt} {c c' : Nat → Int} {x y p h t m : Int} {mk : Nat → Int} (hB : zN S < 12 ∧ (S 0 8).toNat ≤ 6) (E : zEqv S (zMw c 0)) (hc : ∀ j, j < 194 → c' j = zwc c 0 (zN S) x y p h t m mk j) : zEqv S (zMw c' 0) := by
  obtain ⟨⟨E0, E8⟩, E1, E7, E9⟩ := E
  have q : ∀ j, j < 194 → j ≠ 0 + 2 + zN S → j ≠ 0 + 14 + zN S → j ≠ 0 + 26 + zN S → j ≠ 0 + 146 + zN S → j ≠ 0 + 158 + zN S → j ≠ 0 + 170 + zN S → (j < 0 + 38 + 9 * zN S ∨ 0 + 38 + 9 * zN S + 9 ≤ j) → c' j = c j := fun j q2 b1 b2 b3 b4 b5 b6 b7 => by rw [hc j q2, zwc_o b1 b2 b3 b4 b5 b6 b7]
  refine ⟨⟨?_, ?_⟩, fun k hk r h1 h2 => ?_, fun k hk w hw => ?_, fun i hi => ?_⟩
  · show c' 0 = _
    rw [q 0 (by omega) (by omega) (by omega) (by omega) (by omega) (by omega) (by omega) (by omega)]; exact E0
  · show c' 1 = _
    rw [q 1 (by omega) (by omega) (by omega) (by omega) (by omega) (by omega) (by omega) (by omega)]; exact E8
  · have e := E1 k hk r h1 h2
    rcases (by omega : r = 1 ∨ r = 2 ∨ r = 3 ∨ r = 4 ∨ r = 5 ∨ r = 6) with rfl | rfl | rfl | rfl | rfl | rfl
    · show c' (0 + 2 + k) = _; rw [q _ (by omega) (by omega) (by omega) (by omega) (by omega) (by omega) (by omega) (by omega)]; exact e
    · show c' (0 + 14 + k) = _; rw [q _ (by omega) (by omega) (by omega) (by omega) (by omega) (by omega) (by omega) (by omega)]; exact e
    · show c' (0 + 26 + k) = _; rw [q _ (by omega) (by omega) (by omega) (by omega) (by omega) (by omega) (by omega) (by omega)]; exact e
    · show c' (0 + 146 + k) = _; rw [q _ (by omega) (by omega) (by omega) (by omega) (by omega) (by omega) (by omega) (by omega)]; exact e
    · show c' (0 + 158 + k) = _; rw [q _ (by omega) (by omega) (by omega) (by omega) (by omega) (by omega) (by omega) (by omega)]; exact e
    · show c' (0 + 170 + k) = _; rw [q _ (by omega) (by omega) (by omega) (by omega) (by omega) (by omega) (by omega) (by omega)]; exact e
  · show c' (0 + 38 + (9 * k + w)) = _
    rw [q _ (by omega) (by omega) (by omega) (by omega) (by omega) (by omega) (by omega) (by omega)]; exact E7 k hk w hw
  · have e := E9 i hi
    show c' (0 + 182 + i) = _ ∧ c' (0 + 188 + i) = _
    rw [q _ (by omega) (by omega) (by omega) (by omega) (by omega) (by omega) (by omega) (by omega), q _ (by omega) (by omega) (by omega) (by omega) (by omega) (by omega) (by omega) (by omega)]; exact e
theorem t_Md_add {G : zG} {X : zX} {n : Nat} {σ τ : zSt} {x y p : Int} {S : zSt} (hn : 220 ≤ n) (hF : zFine S) (hS : zMc σ S) (hk : 0 ≤ σ 189 1 ∧ σ 189 1 ≤ 8) (z1 : zr x) (z2 : zr y) (c1 : zHid (¬ (x < 0 ∨ 2 < x))) (c2 : zHid (¬ ((S 0 0 = 0 ∧ y ≠ -1) ∨ (S 0 0 ≠ 0 ∧ ¬ (0 ≤ y ∧ y < S 0 0))))) (c3 : zHid (¬ (12 ≤ S 0 0 ∨ 4 < (zdep (S 2) 12 y : Int)))) (c5 : zHid (¬ (y ≠ -1 ∧ S 1 y.toNat = 0))) (ev : p = (if y = -1 then 0 else (zcnt (fun j => decide (S 2 j = y)) (zN S) : Int))) (a0 : zAF σ τ) (s0 : τ 189 2 = 0) (c0 : τ 190 = σ 190) (k0 : τ 189 1 = σ 189 1) : Go G X m_Md_add (5, 0, 0, 0, 0) n SH τ 118 [(0, vr G 189), (1, vi x), (2, vi y), (3, vi (S 0 0))] [vi p] (zI n SH (fun a σ' => zAcM σ σ' a (if (x < 0 ∨ 2 < x) then 1 else if ((S 0 0 = 0 ∧ y ≠ -1) ∨ (S 0 0 ≠ 0 ∧ ¬ (0 ≤ y ∧ y < S 0 0))) then 2 else if (12 ≤ S 0 0 ∨ 4 < (zdep (S 2) 12 y : Int)) then 3 else if (y ≠ -1 ∧ S 1 y.toNat = 0) then 5 else if 1999 < zlast (zApp S 0 x y (if y = -1 then 0 else (zcnt (fun j => decide (S 2 j = y)) (zN S) : Int))) then 7 else 0) (S 0 0) S (zApp S 0 x y (if y = -1 then 0 else (zcnt (fun j => decide (S 2 j = y)) (zN S) : Int))))) := by
  have hT : zMc τ S := hS.moved c0
  have hN := hS.N
  have hz : zN S = (S 0 0).toNat := rfl
  have r1 : 0 ≤ x ∧ x ≤ 2 := by have c1 : ¬ (x < 0 ∨ 2 < x) := c1; omega
  have r2 : (S 0 0 = 0 ∧ y = -1) ∨ (0 < S 0 0 ∧ 0 ≤ y ∧ y < S 0 0) := by have c2 : ¬ ((S 0 0 = 0 ∧ y ≠ -1) ∨ (S 0 0 ≠ 0 ∧ ¬ (0 ≤ y ∧ y < S 0 0))) := c2; omega
  have r3 : S 0 0 < 12 ∧ zdep (S 2) 12 y ≤ 4 := by have c3 : ¬ (12 ≤ S 0 0 ∨ 4 < (zdep (S 2) 12 y : Int)) := c3; omega
  obtain ⟨N, eN⟩ : ∃ N, N = zN S := ⟨_, rfl⟩
  have F2 : zFin (zApp S 0 x y p) := by
    rw [ev]
    exact zApp_fin hF.1 (by omega) r1 (fun _ => by omega) (fun _ => ⟨by omega, by omega, fun q => c5 ⟨by omega, q⟩⟩) r3.2
  have eN2 : S 0 0 = (N : Int) := by omega
  refine g_eq (L' := [(0, vr G 189), (1, vi x), (2, vi y), (3, vi (N : Int))]) ?_ rfl (by rw [eN2]) rfl
  refine g_istore (i := 4) (L' := [(0, _), (1, _), (2, _), (3, _), (4, _)]) (by decide +kernel) rfl rfl ?_
  refine g_aload_n (i := 0) (by decide +kernel) rfl ?_
  refine g_iload_n (i := 3) (by decide +kernel) rfl ?_
  refine g_iload_n (i := 1) (by decide +kernel) rfl ?_
  refine g_iload_n (i := 2) (by decide +kernel) rfl ?_
  refine g_iload (i := 4) (by decide +kernel) rfl ?_
  refine g_cVV (st := _) (c_Md_begins (k := N) hn (by omega)) k_Md_begins l_Md_266 (by decide +kernel) (by omega) rfl rfl rfl rfl (Nat.le_of_ble_eq_true rfl) (by decide) ⟨by decide, by decide⟩ ?_
  rintro υ1 h1
  have x1 : υ1 190 = zwc (σ 190) 1746 N x y p 0 (-1) 0 (zTab 0) := by rw [h1, zrow_eq, c0]
  have f1 : ∀ a, a ≠ 190 → υ1 a = τ a := fun a ha => by rw [h1, zrow_ne ha]
  refine g_aload_n (i := 0) (by decide +kernel) rfl ?_
  refine g_sipush (a := 1746) (by decide +kernel) (by decide) ?_
  refine g_iload_n (i := 3) (by decide +kernel) rfl ?_
  refine g_iload_n (i := 3) (by decide +kernel) rfl ?_
  refine g_cVV (st := _) (c_Md_copyClip (b := 1746) (f := N) (t := N) hn (Or.inr rfl) (by omega) (by omega)) k_Md_copyClip l_Md_319 (by decide +kernel) (by omega) rfl rfl rfl rfl (Nat.le_of_ble_eq_true rfl) (by decide) ⟨by decide, by decide⟩ ?_
  rintro υ2 h2
  rw [x1, zwc_1 (by omega), zwc_2 (by omega), zwc_3 (by omega), zwc_4 (by omega), zwc_5 (by omega), zwc_6 (by omega)] at h2
  obtain ⟨mk, emk⟩ : ∃ mk : Nat → Int, mk = (fun u => zwc (σ 190) 1746 N x y p 0 (-1) 0 (zTab 0) (1746 + 38 + 9 * N + u)) := ⟨_, rfl⟩
  rw [← emk] at h2
  have mk9 : ∀ u, u < 9 → mk u = zTab 0 u := fun u hu => by rw [emk]; exact zwc_7 (by omega) hu
  have x2 : υ2 190 = zwc (υ1 190) 0 (zN S) x y p 0 (-1) 0 mk := by rw [h2, zrow_eq, x1, eN]
  have f2 : ∀ a, a ≠ 190 → υ2 a = τ a := fun a ha => by rw [h2, zrow_ne ha]; exact f1 a ha
  have b1 : ∀ j, j < 1746 → υ1 190 j = σ 190 j := fun j hj => by rw [x1, zwc_o (by omega) (by omega) (by omega) (by omega) (by omega) (by omega) (by omega)]
  have E1 : zEqv S (zMw (υ1 190) 0) := zMw_blk hS.b (c := σ 190) (o := 0) (fun j hj => b1 _ (by omega)) hS.1
  have x0 : υ2 190 0 = S 0 0 := by rw [x2, zwc_o (by omega) (by omega) (by omega) (by omega) (by omega) (by omega) (by omega), b1 0 (by omega)]; exact hS.n
  have d2 : ∀ j, 194 ≤ j → j < 1746 → υ2 190 j = σ 190 j := fun j q1 q2 => by rw [x2, zwc_o (by omega) (by omega) (by omega) (by omega) (by omega) (by omega) (by omega), b1 j q2]
  refine g_aload_n (i := 0) (by decide +kernel) rfl ?_
  refine g_getr f_Md_7 (by decide +kernel) (by omega) rfl rfl ?_
  refine g_iconst (a := 0) (by decide +kernel) ?_
  refine g_dup2 (by decide +kernel) rfl rfl ?_
  refine g_iald (j := 0) (by decide +kernel) (by omega) rfl rfl (by omega) (by decide) ?_
  refine g_iconst (a := 1) (by decide +kernel) ?_
  refine g_iadd (by decide +kernel) ?_
  refine g_iast (j := 0) (by decide +kernel) (by omega) rfl rfl (by omega) (by decide) ?_
  obtain ⟨ψ, eψ⟩ : ∃ ψ, ψ = zs υ2 190 0 (υ2 190 0 + 1) := ⟨_, rfl⟩
  rw [← eψ]
  have g1 : ψ 190 = zu (υ2 190) 0 (S 0 0 + 1) := by rw [eψ, zs_row, x0]
  have g0 : ∀ a, a ≠ 190 → ψ a = τ a := fun a ha => by rw [eψ, zs_other ha, f2 a ha]
  have E2 : zEqv (zApp S 0 x y p) (zMw (ψ 190) 0) := zApp_eqv ⟨by omega, hS.b.2⟩ hN.1 E1 mk9 (fun j hj => by rw [g1, x2])
  have hP : zMc ψ (zApp S 0 x y p) := F2.mc E2
  have lr := F2.lr
  refine g_aload_n (i := 0) (by decide +kernel) rfl ?_
  refine g_cVL (st := _) (c_Md_lasts hn hP) k_Md_lasts l_Md_163 (by decide +kernel) (by omega) rfl rfl rfl rfl (Nat.le_of_ble_eq_true rfl) (by decide) ⟨by decide, by decide⟩ ?_
  rintro a9 ρ ⟨ea9, hf, hl⟩
  have a9r : 0 ≤ a9 ∧ a9 ≤ 800000000 := by rw [ea9]; exact lr
  have p0 : ∀ a, (a < 190 ∨ 195 < a) → ρ a = τ a := fun a ha => by rw [hf a (by omega), g0 a (by omega)]
  have p1 : ρ 190 = zu (υ2 190) 0 (S 0 0 + 1) := by rw [hf 190 (by omega)]; exact g1
  have A1 : zAF σ ρ := a0.of (fun a ha => p0 a (by omega))
  have pb : ∀ v, zu (ρ 190) 0 v = zu (υ2 190) 0 v := fun v => by
    rw [p1]; funext j; unfold zu; split <;> rfl
  have v0 : zs ρ 190 0 (ρ 190 0 - 1) 190 = υ2 190 := by
    rw [zs_row, pb, p1, zu_eq, show S 0 0 + 1 - 1 = S 0 0 by omega, ← x0]
    funext j; unfold zu
    split
    · rename_i e; rw [e]
    · rfl
  refine g_ldc2 (x := 167) (a := 1999) (by decide +kernel) c_Md_167 (by decide) ?_
  refine g_lcmp (by decide +kernel) ⟨by omega, by omega⟩ ⟨by omega, by omega⟩ ?_
  refine g_if_le (off := 20) (tgt := 176) (by decide +kernel) (by decide) zcmp_r (fun h156 => ?_) (fun h156 => ?_)
  · have h156 := zcmp_le.mp h156
    refine g_aload_n (i := 0) (by decide +kernel) rfl ?_
    refine g_getr f_Md_7 (by decide +kernel) (by omega) rfl rfl ?_
    refine g_iconst (a := 0) (by decide +kernel) ?_
    refine g_dup2 (by decide +kernel) rfl rfl ?_
    refine g_iald (j := 0) (by decide +kernel) (by omega) rfl rfl (by omega) (by decide) ?_
    refine g_iconst (a := 1) (by decide +kernel) ?_
    refine g_isub (by decide +kernel) ?_
    refine g_iast (j := 0) (by decide +kernel) (by omega) rfl rfl (by omega) (by decide) ?_
    refine g_aload_n (i := 0) (by decide +kernel) rfl ?_
    obtain ⟨χ, eχ⟩ : ∃ χ, χ = zs ρ 190 0 (ρ 190 0 - 1) := ⟨_, rfl⟩
    rw [← eχ]
    rw [← eχ] at v0
    have q0 : ∀ a, a ≠ 190 → χ a = ρ a := fun a ha => by rw [eχ, zs_other ha]
    refine g_cVV (st := _) (c_Md_keeps hn (by rw [q0 189 (by decide), p0 189 (by omega), k0]; exact hk)) k_Md_keeps l_Md_323 (by decide +kernel) (by omega) rfl rfl rfl rfl (Nat.le_of_ble_eq_true rfl) (by decide) ⟨by decide, by decide⟩ ?_
    rintro φ hφ
    have y0 : φ 190 0 = S 0 0 := by rw [hφ.2.2.1 0 (by omega), v0]; exact x0
    refine g_aload_n (i := 0) (by decide +kernel) rfl ?_
    refine g_getr f_Md_7 (by decide +kernel) (by omega) rfl rfl ?_
    refine g_iconst (a := 0) (by decide +kernel) ?_
    refine g_dup2 (by decide +kernel) rfl rfl ?_
    refine g_iald (j := 0) (by decide +kernel) (by omega) rfl rfl (by omega) (by decide) ?_
    refine g_iconst (a := 1) (by decide +kernel) ?_
    refine g_iadd (by decide +kernel) ?_
    refine g_iast (j := 0) (by decide +kernel) (by omega) rfl rfl (by omega) (by decide) ?_
    refine g_iload_n (i := 3) (by decide +kernel) rfl ?_
    refine g_retI (by decide +kernel) rfl (Or.inl rfl) ⟨by decide, by decide⟩ ?_
    have eB : zEqv S (zMw (υ2 190) 0) := zEqv_behind ⟨by omega, hS.b.2⟩ E1 (fun j hj => by rw [x2])
    refine zAcM.st2 (ρ := χ) (τ := φ) (src := 0) (A1.of (fun a ha => by
        by_cases z : a = 190
        · omega
        · exact q0 a z)) (by rw [q0 189 (by decide), p0 189 (by omega)]; exact s0) (by rw [q0 189 (by decide), p0 189 (by omega)]; exact k0) hk hS.b (by rw [v0]; exact eB) (fun j q1 q2 => by rw [v0]; exact d2 j q1 q2) hφ ⟨(zAF.rf φ).row, fun j _ => by rw [zs_other (by decide)], fun j q1 q2 => zs_ne (by omega)⟩ ?_ (by rw [if_neg c1, if_neg c2, if_neg c3, if_neg c5, ← ev, if_neg (by omega)]) (by omega)
    rw [← ev, zs_row]
    refine zMw_blk F2.b (c := ψ 190) (o := 0) (fun j hj => ?_) E2
    rw [g1, y0]
    unfold zu
    split
    · rfl
    · rw [hφ.2.2.1 _ (by omega), v0]
  · have h156 := zcmp_gt.mp h156
    refine g_aload_n (i := 0) (by decide +kernel) rfl ?_
    refine g_getr f_Md_7 (by decide +kernel) (by omega) rfl rfl ?_
    refine g_iconst (a := 0) (by decide +kernel) ?_
    refine g_dup2 (by decide +kernel) rfl rfl ?_
    refine g_iald (j := 0) (by decide +kernel) (by omega) rfl rfl (by omega) (by decide) ?_
    refine g_iconst (a := 1) (by decide +kernel) ?_
    refine g_isub (by decide +kernel) ?_
    refine g_iast (j := 0) (by decide +kernel) (by omega) rfl rfl (by omega) (by decide) ?_
    refine g_aload_n (i := 0) (by decide +kernel) rfl ?_
    refine g_bipush (a := 7) (by decide +kernel) (by decide) ?_
    refine g_cVI (st := _) (c_Md_refuse hn) k_Md_refuse l_Md_295 (by decide +kernel) (by omega) rfl rfl rfl rfl (Nat.le_of_ble_eq_true rfl) (by decide) ⟨by decide, by decide⟩ ?_
    rintro a9 σ9 ⟨ea9, hσ9⟩
    obtain rfl := ea9.symm
    subst hσ9
    refine g_retI (by decide +kernel) rfl (Or.inl rfl) ⟨by decide, by decide⟩ ?_
    have ez := a9
    refine zAcM.no (A1.row) (by rw [zs_other (by decide), p0 189 (by omega)]; exact k0) ?_ (fun j q1 q2 => ?_) (by rw [if_neg c1, if_neg c2, if_neg c3, if_neg c5, ← ev, if_pos (by omega)]) (by decide)
    · rw [v0]; exact zEqv_behind ⟨by omega, hS.b.2⟩ E1 (fun j hj => by rw [x2])
    · rw [v0]; exact d2 j q1 q2
theorem c_Md_add {G : zG} {n : Nat} {σ : zSt} {x y : Int} {S : zSt} (hn : 220 ≤ n) (hF : zFine S) (hS : zMc σ S) (hk : 0 ≤ σ 189 1 ∧ σ 189 1 ≤ 8) (z1 : zr x) (z2 : zr y) : Gm G y_Md_add m_Md_add 5 0 0 [vr G 189, vi x, vi y] n SH σ (zI n SH (fun a σ' => zAcM σ σ' a (if (x < 0 ∨ 2 < x) then 1 else if ((S 0 0 = 0 ∧ y ≠ -1) ∨ (S 0 0 ≠ 0 ∧ ¬ (0 ≤ y ∧ y < S 0 0))) then 2 else if (12 ≤ S 0 0 ∨ 4 < (zdep (S 2) 12 y : Int)) then 3 else if (y ≠ -1 ∧ S 1 y.toNat = 0) then 5 else if 1999 < zlast (zApp S 0 x y (if y = -1 then 0 else (zcnt (fun j => decide (S 2 j = y)) (zN S) : Int))) then 7 else 0) (S 0 0) S (zApp S 0 x y (if y = -1 then 0 else (zcnt (fun j => decide (S 2 j = y)) (zN S) : Int))))) := by
  refine g_enter (L := [(0, _), (1, _), (2, _)]) (by decide) rfl rfl rfl (Nat.le_of_ble_eq_true rfl) (fun X => ?_)
  have e0 := hS.n
  have e8 := hS.p
  have hN := hS.N
  have hz : zN S = (S 0 0).toNat := rfl
  obtain ⟨z1a, z1b⟩ := id z1
  obtain ⟨z2a, z2b⟩ := id z2
  refine g_aload_n (i := 0) (by decide +kernel) rfl ?_
  refine g_iconst (a := 0) (by decide +kernel) ?_
  refine g_puti f_Md_142 (by decide +kernel) (by omega) rfl rfl ?_
  refine g_aload_n (i := 0) (by decide +kernel) rfl ?_
  refine g_iconst (a := 0) (by decide +kernel) ?_
  refine g_puti f_Md_145 (by decide +kernel) (by omega) rfl rfl ?_
  obtain ⟨τ, eτ⟩ : ∃ τ, τ = zs (zs σ 189 3 0) 189 2 0 := ⟨_, rfl⟩
  rw [← eτ]
  have a0 : zAF σ τ := by rw [eτ]; exact ((zAF.rf σ).put (by decide)).put (by decide)
  have s0 : τ 189 2 = 0 := by rw [eτ, zs_eq]
  have c0 : τ 190 = σ 190 := by rw [eτ, zs_other (by decide), zs_other (by decide)]
  have k0 : τ 189 1 = σ 189 1 := by rw [eτ, zs_ne (by decide), zs_ne (by decide)]
  have hT : zMc τ S := hS.moved c0
  have et := hT.n
  have ep := hT.p
  have J118 : ∀ v : Int, zHid (¬ (x < 0 ∨ 2 < x)) → zHid (¬ ((S 0 0 = 0 ∧ y ≠ -1) ∨ (S 0 0 ≠ 0 ∧ ¬ (0 ≤ y ∧ y < S 0 0)))) → zHid (¬ (12 ≤ S 0 0 ∨ 4 < (zdep (S 2) 12 y : Int))) → zHid (¬ (y ≠ -1 ∧ S 1 y.toNat = 0)) → v = (if y = -1 then 0 else (zcnt (fun j => decide (S 2 j = y)) (zN S) : Int)) → Go G X m_Md_add (5, 0, 0, 0, 0) n SH τ 118 [(0, vr G 189), (1, vi x), (2, vi y), (3, vi (S 0 0))] [vi v] (zI n SH (fun a σ' => zAcM σ σ' a (if (x < 0 ∨ 2 < x) then 1 else if ((S 0 0 = 0 ∧ y ≠ -1) ∨ (S 0 0 ≠ 0 ∧ ¬ (0 ≤ y ∧ y < S 0 0))) then 2 else if (12 ≤ S 0 0 ∨ 4 < (zdep (S 2) 12 y : Int)) then 3 else if (y ≠ -1 ∧ S 1 y.toNat = 0) then 5 else if 1999 < zlast (zApp S 0 x y (if y = -1 then 0 else (zcnt (fun j => decide (S 2 j = y)) (zN S) : Int))) then 7 else 0) (S 0 0) S (zApp S 0 x y (if y = -1 then 0 else (zcnt (fun j => decide (S 2 j = y)) (zN S) : Int))))) := by
    intro v c1 c2 c3 c5 ev
    exact t_Md_add hn hF hS hk z1 z2 c1 c2 c3 c5 ev a0 s0 c0 k0
  have J100 : zHid (¬ (x < 0 ∨ 2 < x)) → zHid (¬ ((S 0 0 = 0 ∧ y ≠ -1) ∨ (S 0 0 ≠ 0 ∧ ¬ (0 ≤ y ∧ y < S 0 0)))) → zHid (¬ (12 ≤ S 0 0 ∨ 4 < (zdep (S 2) 12 y : Int))) → zHid (¬ (y ≠ -1 ∧ S 1 y.toNat = 0)) → Go G X m_Md_add (5, 0, 0, 0, 0) n SH τ 100 [(0, vr G 189), (1, vi x), (2, vi y)] [] (zI n SH (fun a σ' => zAcM σ σ' a (if (x < 0 ∨ 2 < x) then 1 else if ((S 0 0 = 0 ∧ y ≠ -1) ∨ (S 0 0 ≠ 0 ∧ ¬ (0 ≤ y ∧ y < S 0 0))) then 2 else if (12 ≤ S 0 0 ∨ 4 < (zdep (S 2) 12 y : Int)) then 3 else if (y ≠ -1 ∧ S 1 y.toNat = 0) then 5 else if 1999 < zlast (zApp S 0 x y (if y = -1 then 0 else (zcnt (fun j => decide (S 2 j = y)) (zN S) : Int))) then 7 else 0) (S 0 0) S (zApp S 0 x y (if y = -1 then 0 else (zcnt (fun j => decide (S 2 j = y)) (zN S) : Int))))) := by
    intro c1 c2 c3 c5
    have r1 : 0 ≤ x ∧ x ≤ 2 := by have c1 : ¬ (x < 0 ∨ 2 < x) := c1; omega
    have r2 : (S 0 0 = 0 ∧ y = -1) ∨ (0 < S 0 0 ∧ 0 ≤ y ∧ y < S 0 0) := by have c2 : ¬ ((S 0 0 = 0 ∧ y ≠ -1) ∨ (S 0 0 ≠ 0 ∧ ¬ (0 ≤ y ∧ y < S 0 0))) := c2; omega
    
    refine g_aload_n (i := 0) (by decide +kernel) rfl ?_
    refine g_cVI (st := _) (c_Md_clips hn) k_Md_clips l_Md_148 (by decide +kernel) (by omega) rfl rfl rfl rfl (Nat.le_of_ble_eq_true rfl) (by decide) ⟨by decide, by decide⟩ ?_
    rintro b0 σ9 ⟨eb0, hσ9⟩
    obtain rfl := hσ9.symm
    rw [hT.n] at eb0
    subst eb0
    refine g_istore_n (i := 3) (L' := [(0, _), (1, _), (2, _), (3, _)]) (by decide +kernel) rfl rfl ?_
    refine g_iload_n (i := 2) (by decide +kernel) rfl ?_
    refine g_if_ge (off := 7) (tgt := 113) (by decide +kernel) (by decide) ⟨by omega, by omega⟩ (fun h106 => ?_) (fun h106 => ?_)
    · refine g_aload_n (i := 0) (by decide +kernel) rfl ?_
      refine g_iload_n (i := 2) (by decide +kernel) rfl ?_
      refine g_cVI (st := _) (c_Md_manyIn (q := y) hn hT z2) k_Md_manyIn l_Md_173 (by decide +kernel) (by omega) rfl rfl rfl rfl (Nat.le_of_ble_eq_true rfl) (by decide) ⟨by decide, by decide⟩ ?_
      rintro a9 σ9 ⟨ea9, hσ9⟩
      obtain rfl := hσ9.symm
      first
        | (have hz : y < 0 := h106
           exact J118 _ c1 c2 c3 c5 (by rw [if_pos (by omega)]))
        | (have hz : 0 ≤ y := h106
           exact J118 _ c1 c2 c3 c5 (by rw [if_neg (by omega)]; exact ea9))
    · refine g_iconst (a := 0) (by decide +kernel) ?_
      refine g_goto (off := 8) (tgt := 118) (by decide +kernel) (by decide) ?_
      first
        | (have hz : y < 0 := h106
           exact J118 _ c1 c2 c3 c5 (by rw [if_pos (by omega)]))
        | (have hz : 0 ≤ y := h106
           exact J118 _ c1 c2 c3 c5 (by rw [if_neg (by omega)]; exact ea9))
  have J82 : zHid (¬ (x < 0 ∨ 2 < x)) → zHid (¬ ((S 0 0 = 0 ∧ y ≠ -1) ∨ (S 0 0 ≠ 0 ∧ ¬ (0 ≤ y ∧ y < S 0 0)))) → zHid (¬ (12 ≤ S 0 0 ∨ 4 < (zdep (S 2) 12 y : Int))) → Go G X m_Md_add (5, 0, 0, 0, 0) n SH τ 82 [(0, vr G 189), (1, vi x), (2, vi y)] [] (zI n SH (fun a σ' => zAcM σ σ' a (if (x < 0 ∨ 2 < x) then 1 else if ((S 0 0 = 0 ∧ y ≠ -1) ∨ (S 0 0 ≠ 0 ∧ ¬ (0 ≤ y ∧ y < S 0 0))) then 2 else if (12 ≤ S 0 0 ∨ 4 < (zdep (S 2) 12 y : Int)) then 3 else if (y ≠ -1 ∧ S 1 y.toNat = 0) then 5 else if 1999 < zlast (zApp S 0 x y (if y = -1 then 0 else (zcnt (fun j => decide (S 2 j = y)) (zN S) : Int))) then 7 else 0) (S 0 0) S (zApp S 0 x y (if y = -1 then 0 else (zcnt (fun j => decide (S 2 j = y)) (zN S) : Int))))) := by
    intro c1 c2 c3
    have r1 : 0 ≤ x ∧ x ≤ 2 := by have c1 : ¬ (x < 0 ∨ 2 < x) := c1; omega
    have r2 : (S 0 0 = 0 ∧ y = -1) ∨ (0 < S 0 0 ∧ 0 ≤ y ∧ y < S 0 0) := by have c2 : ¬ ((S 0 0 = 0 ∧ y ≠ -1) ∨ (S 0 0 ≠ 0 ∧ ¬ (0 ≤ y ∧ y < S 0 0))) := c2; omega
    
    refine g_iload_n (i := 2) (by decide +kernel) rfl ?_
    refine g_if_lt (off := 17) (tgt := 100) (by decide +kernel) (by decide) ⟨by omega, by omega⟩ (fun h83 => ?_) (fun h83 => ?_)
    · first
        | (have hz : y < 0 := h83
           exact J100 c1 c2 c3 (show ¬ (y ≠ -1 ∧ S 1 y.toNat = 0) by omega))
        | exact J100 c1 c2 c3 (show ¬ ((k : Int) ≠ -1 ∧ S 1 (k : Int).toNat = 0) from fun q => by have := q.2; rw [Int.toNat_natCast] at this; omega)
    · refine g_aload_n (i := 0) (by decide +kernel) rfl ?_
      refine g_iload_n (i := 2) (by decide +kernel) rfl ?_
      obtain ⟨k, rfl⟩ := Int.eq_ofNat_of_zero_le h83
      have kN : k < zN S := by omega
      have k1 := hT.kd kN
      have kr := (hT.rg (show k < 12 by omega)).1
      refine g_cVI (st := _) (c_Md_kind (k := k) hn (by omega)) k_Md_kind l_Md_182 (by decide +kernel) (by omega) rfl rfl rfl rfl (Nat.le_of_ble_eq_true rfl) (by decide) ⟨by decide, by decide⟩ ?_
      rintro a9 σ9 ⟨ea9, hσ9⟩
      obtain rfl := hσ9.symm
      rw [k1] at ea9
      subst ea9
      refine g_if_ne (off := 9) (tgt := 100) (by decide +kernel) (by decide) ⟨by omega, by omega⟩ (fun h91 => ?_) (fun h91 => ?_)
      · first
          | (have hz : y < 0 := h83
             exact J100 c1 c2 c3 (show ¬ (y ≠ -1 ∧ S 1 y.toNat = 0) by omega))
          | exact J100 c1 c2 c3 (show ¬ ((k : Int) ≠ -1 ∧ S 1 (k : Int).toNat = 0) from fun q => by have := q.2; rw [Int.toNat_natCast] at this; omega)
      · refine g_aload_n (i := 0) (by decide +kernel) rfl ?_
        refine g_iconst (a := 5) (by decide +kernel) ?_
        refine g_cVI (st := _) (c_Md_refuse hn) k_Md_refuse l_Md_295 (by decide +kernel) (by omega) rfl rfl rfl rfl (Nat.le_of_ble_eq_true rfl) (by decide) ⟨by decide, by decide⟩ ?_
        rintro a9 σ9 ⟨ea9, hσ9⟩
        obtain rfl := ea9.symm
        subst hσ9
        refine g_retI (by decide +kernel) rfl (Or.inl rfl) ⟨by decide, by decide⟩ ?_
        exact zAcM.no0 a0 k0 c0 hS (by rw [if_neg c1, if_neg c2, if_neg c3, if_pos ⟨by omega, by rw [Int.toNat_natCast]; omega⟩]) (by decide)
  have J54 : zHid (¬ (x < 0 ∨ 2 < x)) → zHid (¬ ((S 0 0 = 0 ∧ y ≠ -1) ∨ (S 0 0 ≠ 0 ∧ ¬ (0 ≤ y ∧ y < S 0 0)))) → Go G X m_Md_add (5, 0, 0, 0, 0) n SH τ 54 [(0, vr G 189), (1, vi x), (2, vi y)] [] (zI n SH (fun a σ' => zAcM σ σ' a (if (x < 0 ∨ 2 < x) then 1 else if ((S 0 0 = 0 ∧ y ≠ -1) ∨ (S 0 0 ≠ 0 ∧ ¬ (0 ≤ y ∧ y < S 0 0))) then 2 else if (12 ≤ S 0 0 ∨ 4 < (zdep (S 2) 12 y : Int)) then 3 else if (y ≠ -1 ∧ S 1 y.toNat = 0) then 5 else if 1999 < zlast (zApp S 0 x y (if y = -1 then 0 else (zcnt (fun j => decide (S 2 j = y)) (zN S) : Int))) then 7 else 0) (S 0 0) S (zApp S 0 x y (if y = -1 then 0 else (zcnt (fun j => decide (S 2 j = y)) (zN S) : Int))))) := by
    intro c1 c2
    have r1 : 0 ≤ x ∧ x ≤ 2 := by have c1 : ¬ (x < 0 ∨ 2 < x) := c1; omega
    have r2 : (S 0 0 = 0 ∧ y = -1) ∨ (0 < S 0 0 ∧ 0 ≤ y ∧ y < S 0 0) := by have c2 : ¬ ((S 0 0 = 0 ∧ y ≠ -1) ∨ (S 0 0 ≠ 0 ∧ ¬ (0 ≤ y ∧ y < S 0 0))) := c2; omega
    obtain ⟨⟨d, r, hv⟩, -⟩ := id hF.1.2.1
    refine g_aload_n (i := 0) (by decide +kernel) rfl ?_
    refine g_cVI (st := _) (c_Md_clips hn) k_Md_clips l_Md_148 (by decide +kernel) (by omega) rfl rfl rfl rfl (Nat.le_of_ble_eq_true rfl) (by decide) ⟨by decide, by decide⟩ ?_
    rintro b0 σ9 ⟨eb0, hσ9⟩
    obtain rfl := hσ9.symm
    rw [hT.n] at eb0
    subst eb0
    refine g_bipush (a := 12) (by decide +kernel) (by decide) ?_
    refine g_icmp_eq (off := 16) (tgt := 76) (by decide +kernel) (by decide) ⟨by omega, by omega⟩ ⟨by omega, by omega⟩ (fun h60 => ?_) (fun h60 => ?_)
    · refine g_aload_n (i := 0) (by decide +kernel) rfl ?_
      refine g_iconst (a := 3) (by decide +kernel) ?_
      refine g_cVI (st := _) (c_Md_refuse hn) k_Md_refuse l_Md_295 (by decide +kernel) (by omega) rfl rfl rfl rfl (Nat.le_of_ble_eq_true rfl) (by decide) ⟨by decide, by decide⟩ ?_
      rintro a9 σ9 ⟨ea9, hσ9⟩
      obtain rfl := ea9.symm
      subst hσ9
      refine g_retI (by decide +kernel) rfl (Or.inl rfl) ⟨by decide, by decide⟩ ?_
      exact zAcM.no0 a0 k0 c0 hS (by rw [if_neg c1, if_neg c2, if_pos (by omega)]) (by decide)
    · refine g_iload_n (i := 2) (by decide +kernel) rfl ?_
      refine g_if_lt (off := 18) (tgt := 82) (by decide +kernel) (by decide) ⟨by omega, by omega⟩ (fun h64 => ?_) (fun h64 => ?_)
      · first
          | (have hz : y < 0 := h64
             have ey : y = -1 := by omega
             have zm : zdep (S 2) 12 y = 0 := by rw [ey]; rfl
             exact J82 c1 c2 (show ¬ (12 ≤ S 0 0 ∨ 4 < (zdep (S 2) 12 y : Int)) by omega))
          | exact J82 c1 c2 (show ¬ (12 ≤ S 0 0 ∨ 4 < (zdep (S 2) 12 (k : Int) : Int)) by omega)
      · refine g_aload_n (i := 0) (by decide +kernel) rfl ?_
        refine g_iload_n (i := 2) (by decide +kernel) rfl ?_
        obtain ⟨k, rfl⟩ := Int.eq_ofNat_of_zero_le h64
        have kN : k < zN S := by omega
        have tk := hv.2.1 k kN
        have zd := zdep_d hv 12 k kN (by omega)
        have dk := (hv.1.2 k kN).1
        have st : zdep (S 2) 12 (k : Int) = zdep (S 2) 12 (S 2 k) + 1 := by
          by_cases z : S 2 k = -1
          · have e : zdep (S 2) 12 (k : Int) = zdep (S 2) 11 (S 2 k) + 1 := by show (if (k : Int) = -1 then 0 else zdep (S 2) 11 (S 2 k) + 1) = _; rw [if_neg (by omega)]
            rw [e, z]; rfl
          · have b := zdep_d hv 12 (S 2 k).toNat (by omega) (by omega)
            rw [show (((S 2 k).toNat : Nat) : Int) = S 2 k by omega] at b
            have c := (hv.1.2 (S 2 k).toNat (by omega)).2 k kN (by omega)
            omega
        refine g_cVI (st := _) (c_Md_depthNow (k := k) hn hT hv kN) k_Md_depthNow l_Md_316 (by decide +kernel) (by omega) rfl rfl rfl rfl (Nat.le_of_ble_eq_true rfl) (by decide) ⟨by decide, by decide⟩ ?_
        rintro a9 σ9 ⟨ea9, hσ9⟩
        obtain rfl := hσ9.symm
        refine g_iconst (a := 4) (by decide +kernel) ?_
        refine g_icmp_ne (off := 9) (tgt := 82) (by decide +kernel) (by decide) ⟨by omega, by omega⟩ ⟨by omega, by omega⟩ (fun h73 => ?_) (fun h73 => ?_)
        · first
            | (have hz : y < 0 := h64
               have ey : y = -1 := by omega
               have zm : zdep (S 2) 12 y = 0 := by rw [ey]; rfl
               exact J82 c1 c2 (show ¬ (12 ≤ S 0 0 ∨ 4 < (zdep (S 2) 12 y : Int)) by omega))
            | exact J82 c1 c2 (show ¬ (12 ≤ S 0 0 ∨ 4 < (zdep (S 2) 12 (k : Int) : Int)) by omega)
        · refine g_aload_n (i := 0) (by decide +kernel) rfl ?_
          refine g_iconst (a := 3) (by decide +kernel) ?_
          refine g_cVI (st := _) (c_Md_refuse hn) k_Md_refuse l_Md_295 (by decide +kernel) (by omega) rfl rfl rfl rfl (Nat.le_of_ble_eq_true rfl) (by decide) ⟨by decide, by decide⟩ ?_
          rintro a9 σ9 ⟨ea9, hσ9⟩
          obtain rfl := ea9.symm
          subst hσ9
          refine g_retI (by decide +kernel) rfl (Or.inl rfl) ⟨by decide, by decide⟩ ?_
          exact zAcM.no0 a0 k0 c0 hS (by rw [if_neg c1, if_neg c2, if_pos (by omega)]) (by decide)
  refine g_iload_n (i := 1) (by decide +kernel) rfl ?_
  refine g_iconst (a := 0) (by decide +kernel) ?_
  refine g_iconst (a := 2) (by decide +kernel) ?_
  refine g_cSI (st := _) (c_Md_isIn ⟨by omega, by omega⟩ ⟨by omega, by omega⟩ ⟨by omega, by omega⟩) k_Md_isIn l_Md_152 (by decide +kernel) rfl rfl (Nat.le_of_ble_eq_true rfl) (by decide) ⟨by decide, by decide⟩ ?_
  rintro a9 σ9 ⟨ea9, hσ9⟩
  obtain rfl := hσ9.symm
  subst ea9
  refine g_if_ne (off := 9) (tgt := 25) (by decide +kernel) (by decide) zbr (fun h16 => ?_) (fun h16 => ?_)
  · have h16 := zb1.mp h16
    refine g_aload_n (i := 0) (by decide +kernel) rfl ?_
    refine g_cVI (st := _) (c_Md_clips hn) k_Md_clips l_Md_148 (by decide +kernel) (by omega) rfl rfl rfl rfl (Nat.le_of_ble_eq_true rfl) (by decide) ⟨by decide, by decide⟩ ?_
    rintro b0 σ9 ⟨eb0, hσ9⟩
    obtain rfl := hσ9.symm
    rw [hT.n] at eb0
    subst eb0
    refine g_if_ne (off := 11) (tgt := 40) (by decide +kernel) (by decide) ⟨by omega, by omega⟩ (fun h29 => ?_) (fun h29 => ?_)
    · refine g_aload_n (i := 0) (by decide +kernel) rfl ?_
      refine g_iload_n (i := 2) (by decide +kernel) rfl ?_
      refine g_cVI (st := _) (c_Md_isClip (k := y) hn (by assumption) (by rw [hT.n]; omega)) k_Md_isClip l_Md_313 (by decide +kernel) (by omega) rfl rfl rfl rfl (Nat.le_of_ble_eq_true rfl) (by decide) ⟨by decide, by decide⟩ ?_
      rintro a9 σ9 ⟨ea9, hσ9⟩
      obtain rfl := hσ9.symm
      rw [hT.n] at ea9
      subst ea9
      refine g_if_ne (off := 9) (tgt := 54) (by decide +kernel) (by decide) zbr (fun h45 => ?_) (fun h45 => ?_)
      · have h45 := zb1.mp h45
        exact J54 (show ¬ (x < 0 ∨ 2 < x) by omega) (show ¬ ((S 0 0 = 0 ∧ y ≠ -1) ∨ (S 0 0 ≠ 0 ∧ ¬ (0 ≤ y ∧ y < S 0 0))) by omega)
      · have h45 := zb0.mp h45
        refine g_aload_n (i := 0) (by decide +kernel) rfl ?_
        refine g_iconst (a := 2) (by decide +kernel) ?_
        refine g_cVI (st := _) (c_Md_refuse hn) k_Md_refuse l_Md_295 (by decide +kernel) (by omega) rfl rfl rfl rfl (Nat.le_of_ble_eq_true rfl) (by decide) ⟨by decide, by decide⟩ ?_
        rintro a9 σ9 ⟨ea9, hσ9⟩
        obtain rfl := ea9.symm
        subst hσ9
        refine g_retI (by decide +kernel) rfl (Or.inl rfl) ⟨by decide, by decide⟩ ?_
        exact zAcM.no0 a0 k0 c0 hS (by rw [if_neg (by omega), if_pos (by omega)]) (by decide)
    · refine g_iload_n (i := 2) (by decide +kernel) rfl ?_
      refine g_iconst (a := -1) (by decide +kernel) ?_
      refine g_icmp_eq (off := 20) (tgt := 54) (by decide +kernel) (by decide) ⟨by omega, by omega⟩ ⟨by omega, by omega⟩ (fun h34 => ?_) (fun h34 => ?_)
      · exact J54 (show ¬ (x < 0 ∨ 2 < x) by omega) (show ¬ ((S 0 0 = 0 ∧ y ≠ -1) ∨ (S 0 0 ≠ 0 ∧ ¬ (0 ≤ y ∧ y < S 0 0))) by omega)
      · refine g_goto (off := 11) (tgt := 48) (by decide +kernel) (by decide) ?_
        refine g_aload_n (i := 0) (by decide +kernel) rfl ?_
        refine g_iconst (a := 2) (by decide +kernel) ?_
        refine g_cVI (st := _) (c_Md_refuse hn) k_Md_refuse l_Md_295 (by decide +kernel) (by omega) rfl rfl rfl rfl (Nat.le_of_ble_eq_true rfl) (by decide) ⟨by decide, by decide⟩ ?_
        rintro a9 σ9 ⟨ea9, hσ9⟩
        obtain rfl := ea9.symm
        subst hσ9
        refine g_retI (by decide +kernel) rfl (Or.inl rfl) ⟨by decide, by decide⟩ ?_
        exact zAcM.no0 a0 k0 c0 hS (by rw [if_neg (by omega), if_pos (by omega)]) (by decide)
  · have h16 := zb0.mp h16
    refine g_aload_n (i := 0) (by decide +kernel) rfl ?_
    refine g_iconst (a := 1) (by decide +kernel) ?_
    refine g_cVI (st := _) (c_Md_refuse hn) k_Md_refuse l_Md_295 (by decide +kernel) (by omega) rfl rfl rfl rfl (Nat.le_of_ble_eq_true rfl) (by decide) ⟨by decide, by decide⟩ ?_
    rintro a9 σ9 ⟨ea9, hσ9⟩
    obtain rfl := ea9.symm
    subst hσ9
    refine g_retI (by decide +kernel) rfl (Or.inl rfl) ⟨by decide, by decide⟩ ?_
    exact zAcM.no0 a0 k0 c0 hS (if_pos (by omega)) (by decide)
