section PUT
variable {σ τ ρ σ' S S' : zSt} {c c' : Nat → Int} {o : Nat} {a w v : Int}
/-- how wide a row of a Show is -/
def zmW (r : Nat) : Nat := if r = 7 then 108 else if 8 ≤ r then 6 else 12
theorem zmO_inj {r r' j j' : Nat} (h1 : 1 ≤ r) (h2 : r ≤ 9) (h1' : 1 ≤ r') (h2' : r' ≤ 9) (hj : j < zmW r) (hj' : j' < zmW r') (e : zmO r + j = zmO r' + j') : r = r' ∧ j = j' := by
  have q : ∀ r, 1 ≤ r → r ≤ 9 → (r = 1 ∧ zmO r = 2 ∧ zmW r = 12) ∨ (r = 2 ∧ zmO r = 14 ∧ zmW r = 12) ∨ (r = 3 ∧ zmO r = 26 ∧ zmW r = 12) ∨ (r = 4 ∧ zmO r = 146 ∧ zmW r = 12) ∨ (r = 5 ∧ zmO r = 158 ∧ zmW r = 12) ∨ (r = 6 ∧ zmO r = 170 ∧ zmW r = 12) ∨ (r = 7 ∧ zmO r = 38 ∧ zmW r = 108) ∨ (r = 8 ∧ zmO r = 182 ∧ zmW r = 6) ∨ (r = 9 ∧ zmO r = 188 ∧ zmW r = 6) := by
    intro r a b
    rcases (by omega : r = 1 ∨ r = 2 ∨ r = 3 ∨ r = 4 ∨ r = 5 ∨ r = 6 ∨ r = 7 ∨ r = 8 ∨ r = 9) with rfl | rfl | rfl | rfl | rfl | rfl | rfl | rfl | rfl <;> simp [zmO, zmW]
  have a := q r h1 h2
  have b := q r' h1' h2'
  omega
theorem zmO_2 {r : Nat} : 2 ≤ zmO r := by
  unfold zmO
  repeat' split
  all_goals omega
theorem zMw_put {r j r' j' : Nat} (h1 : 1 ≤ r) (h2 : r ≤ 9) (hj : j < zmW r) (h1' : 1 ≤ r') (h2' : r' ≤ 9) (hj' : j' < zmW r') : zMw (zu c (o + zmO r + j) v) o r' j' = zs (zMw c o) r j v r' j' := by
  have e : zMw (zu c (o + zmO r + j) v) o r' j' = zu c (o + zmO r + j) v (o + zmO r' + j') := by unfold zMw; rw [if_neg (by omega)]
  have e2 : zMw c o r' j' = c (o + zmO r' + j') := by unfold zMw; rw [if_neg (by omega)]
  rw [e]
  by_cases z : r' = r ∧ j' = j
  · rw [z.1, z.2, zu_eq, zs_eq]
  · rw [zs_ne z, e2, zu_ne (fun y => z (by have := zmO_inj h1' h2' h1 h2 hj' hj (by omega); exact this))]
theorem zMw_put0 {r j : Nat} : zMw (zu c (o + zmO r + j) v) o 0 = zMw c o 0 := by
  have := zmO_2 (r := r)
  funext i
  unfold zMw
  rw [if_pos rfl, if_pos rfl]
  split
  · rw [zu_ne (by omega)]
  · rw [zu_ne (by omega)]
theorem zEqv_put {r j : Nat} (hN : zN S ≤ 12 ∧ (S 0 8).toNat ≤ 6) (E : zEqv S (zMw c o)) (h1 : 1 ≤ r) (h2 : r ≤ 9) (hj : j < zmW r) : zEqv (zs S r j v) (zMw (zu c (o + zmO r + j) v) o) := by
  have n0 : zs S r j v 0 = S 0 := zs_other (by omega)
  have hz : zN (zs S r j v) = zN S := by unfold zN; rw [n0]
  have st : ∀ r' j', zMw c o r' j' = S r' j' → zs (zMw c o) r j v r' j' = zs S r j v r' j' := fun r' j' e => by
    by_cases z : r' = r ∧ j' = j
    · rw [z.1, z.2, zs_eq, zs_eq]
    · rw [zs_ne z, zs_ne z, e]
  obtain ⟨⟨E0, E8⟩, E1, E7, E9⟩ := E
  refine ⟨⟨by rw [zMw_put0, n0]; exact E0, by rw [zMw_put0, n0]; exact E8⟩, fun k hk q a b => ?_, fun k hk w hw => ?_, fun i hi => ?_⟩
  · rw [hz] at hk
    have wq : k < zmW q := by unfold zmW; rw [if_neg (by omega), if_neg (by omega)]; omega
    rw [zMw_put h1 h2 hj a (by omega) wq]
    exact st q k (E1 k hk q a b)
  · rw [hz] at hk
    rw [zMw_put h1 h2 hj (by decide) (by decide) (by show 9 * k + w < 108; omega)]
    exact st 7 _ (E7 k hk w hw)
  · rw [n0] at hi
    rw [zMw_put h1 h2 hj (by decide) (by decide) (by show i < 6; omega), zMw_put h1 h2 hj (by decide) (by decide) (by show i < 6; omega)]
    exact ⟨st 8 i (E9 i hi).1, st 9 i (E9 i hi).2⟩
/-! how acts end -/
theorem zAcM.no {d : Int} (h : zAF σ τ) (hk : τ 189 1 = σ 189 1) (E : zEqv S (zMw (τ 190) 0)) (hb : ∀ j, 194 ≤ j → j < 1746 → τ 190 j = σ 190 j) (hw : w = d) (h0 : d ≠ 0) : zAcM σ (zs τ 189 2 d) (-1) w v S S' := ⟨h.put (by decide), by rw [zs_eq]; exact hw.symm, Or.inl ⟨by rw [hw]; exact h0, rfl, by rw [zs_ne (by decide)]; exact hk, by rw [zs_other (by decide)]; exact E, fun j h1 h2 => by rw [zs_other (by decide)]; exact hb j h1 h2⟩⟩
theorem zAcM.no0 {d : Int} (h : zAF σ τ) (hk : τ 189 1 = σ 189 1) (hc : τ 190 = σ 190) (hS : zMc σ S) (hw : w = d) (h0 : d ≠ 0) : zAcM σ (zs τ 189 2 d) (-1) w v S S' := zAcM.no h hk (by rw [hc]; exact hS.1) (fun j _ _ => by rw [hc]) hw h0
theorem zAcM.st {src : Nat} (h : zAF σ ρ) (s1 : ρ 189 2 = 0) (k1 : ρ 189 1 = σ 189 1) (hk : 0 ≤ σ 189 1 ∧ σ 189 1 ≤ 8) (hS : zMc σ S) (hd : ∀ j, j < 194 → ρ 190 (src + j) = σ 190 j) (hb : ∀ j, 194 ≤ j → j < 1746 → ρ 190 j = σ 190 j)
    (B' : zN S' ≤ 12 ∧ (S' 0 8).toNat ≤ 6) (g : (∀ a, a ≠ 189 → a ≠ 190 → τ a = ρ a) ∧ (∀ j, j ≠ 1 → τ 189 j = ρ 189 j) ∧ (∀ j, (j < 194 ∨ 1746 ≤ j) → τ 190 j = ρ 190 j) ∧ zPsh ρ τ src)
    (f : (∀ a, a ≠ 190 → σ' a = τ a) ∧ ∀ j, 194 ≤ j → j < 1746 → σ' 190 j = τ 190 j) (E' : zEqv S' (zMw (σ' 190) 0)) (hw : w = 0) (hv : a = v) : zAcM σ σ' a w v S S' := by
  obtain ⟨g1, g2, g3, p1, p2, p3⟩ := g
  have e1 : σ' 189 1 = τ 189 1 := by rw [f.1 189 (by decide)]
  rw [k1] at p1 p3
  have m8 : (τ 189 1).toNat ≤ 8 ∧ (τ 189 1).toNat ≤ (σ 189 1).toNat + 1 ∧ 1 ≤ (τ 189 1).toNat := by rw [p1]; omega
  refine ⟨h.tr ⟨fun a ha => by rw [f.1 a (by omega), g1 a (by omega) (by omega)], fun j hj => by rw [f.1 189 (by decide), g2 j (by omega)]⟩, by rw [f.1 189 (by decide), g2 2 (by decide), s1]; exact hw.symm, Or.inr ⟨hw, hv, E', by rw [e1]; exact p1, ?_, fun i i1 i2 j hj => ?_⟩⟩
  · rw [e1]
    refine zMw_blk hS.b (c := σ 190) (o := 0) (fun j hj => ?_) hS.1
    rw [f.2 _ (by omega) (by omega), p2 j hj, hd j hj, Nat.zero_add]
  · rw [e1] at i2 ⊢
    rw [f.2 _ (by omega) (by omega), p3 i i1 i2 j hj, hb _ (by omega) (by omega)]
theorem zFin.b (h : zFin S) : zN S ≤ 12 ∧ (S 0 8).toNat ≤ 6 := by
  have := h.1.1
  have hz : zN S = (S 0 0).toNat := rfl
  omega
theorem zFin.mc (h : zFin S) (E : zEqv S (zMw (σ 190) 0)) : zMc σ S := ⟨E, h.1, h.2.1⟩
end PUT
theorem zmOk_at {v : Int} : (zmOk 0 v ↔ 0 ≤ v ∧ v ≤ 999) ∧ (zmOk 1 v ↔ 1 ≤ v ∧ v ≤ 4) ∧ (zmOk 2 v ↔ 1 ≤ v ∧ v ≤ 9) ∧ (zmOk 3 v ↔ 0 ≤ v ∧ v ≤ 999) ∧ (zmOk 4 v ↔ 0 ≤ v ∧ v ≤ 1) ∧ (zmOk 5 v ↔ 0 ≤ v ∧ v ≤ 1) ∧ (zmOk 6 v ↔ 0 ≤ v ∧ v ≤ 9) ∧ (zmOk 7 v ↔ 0 ≤ v ∧ v ≤ 20) ∧ (zmOk 8 v ↔ 0 ≤ v ∧ v ≤ 20) := by
  refine ⟨?_, ?_, ?_, ?_, ?_, ?_, ?_, ?_, ?_⟩ <;> exact ⟨fun y => ⟨y.2.2.1, y.2.2.2⟩, fun y => ⟨by decide, by decide, y.1, y.2⟩⟩
theorem c_Md_canBe {G : zG} {n : Nat} {σ : zSt} {w v : Int} (z1 : zr w) (z2 : zr v) : Gm G y_Md_canBe m_Md_canBe 1 0 0 [vi w, vi v] n SH σ (zI n SH (fun a σ' => a = (if zmOk w v then 1 else 0) ∧ σ' = σ)) := by
  refine g_enter (L := [(0, _), (1, _)]) (by decide) rfl rfl rfl (Nat.le_of_ble_eq_true rfl) (fun X => ?_)
  obtain ⟨z1a, z1b⟩ := id z1
  obtain ⟨z2a, z2b⟩ := id z2
  refine g_iload_n (i := 0) (by decide +kernel) rfl ?_
  rcases (by omega : w = 0 ∨ w = 1 ∨ w = 2 ∨ w = 3 ∨ w = 4 ∨ w = 5 ∨ w = 6 ∨ w = 7 ∨ w = 8 ∨ (w < 0 ∨ 8 < w)) with h1 | h1 | h1 | h1 | h1 | h1 | h1 | h1 | h1 | h1
  · refine g_tableIn (dflt := 91) (lo := 0) (hi := 8) (offs := #[51, 60, 67, 51, 91, 91, 75, 83, 83]) (len := 51) (off := 51) (tgt := 52) (by decide +kernel) ⟨by omega, by omega⟩ (by omega) (by omega) (by rw [h1]; rfl) (by decide) ?_
    refine g_iload_n (i := 1) (by decide +kernel) rfl ?_
    refine g_iconst (a := 0) (by decide +kernel) ?_
    refine g_sipush (a := 999) (by decide +kernel) (by decide) ?_
    refine g_cSI (st := _) (c_Md_isIn ⟨by omega, by omega⟩ ⟨by omega, by omega⟩ ⟨by omega, by omega⟩) k_Md_isIn l_Md_152 (by decide +kernel) rfl rfl (Nat.le_of_ble_eq_true rfl) (by decide) ⟨by decide, by decide⟩ ?_
    rintro a9 σ9 ⟨ea9, hσ9⟩
    obtain rfl := hσ9.symm
    subst ea9
    refine g_retI (by decide +kernel) rfl (Or.inr ⟨rfl, by split <;> omega⟩) ⟨by decide, by decide⟩ ?_
    refine ⟨?_, rfl⟩
    first
      | (have hz : w = 0 := h1
         rw [hz]
         have z := (@zmOk_at v).1
         by_cases y : 0 ≤ v ∧ v ≤ 999
         · rw [if_pos y, if_pos (z.mpr y)]
         · rw [if_neg y, if_neg (fun x => y (z.mp x))])
      | (have hz : w = 1 := h1
         rw [hz]
         have z := (@zmOk_at v).2.1
         by_cases y : 1 ≤ v ∧ v ≤ 4
         · rw [if_pos y, if_pos (z.mpr y)]
         · rw [if_neg y, if_neg (fun x => y (z.mp x))])
      | (have hz : w = 2 := h1
         rw [hz]
         have z := (@zmOk_at v).2.2.1
         by_cases y : 1 ≤ v ∧ v ≤ 9
         · rw [if_pos y, if_pos (z.mpr y)]
         · rw [if_neg y, if_neg (fun x => y (z.mp x))])
      | (have hz : w = 3 := h1
         rw [hz]
         have z := (@zmOk_at v).2.2.2.1
         by_cases y : 0 ≤ v ∧ v ≤ 999
         · rw [if_pos y, if_pos (z.mpr y)]
         · rw [if_neg y, if_neg (fun x => y (z.mp x))])
      | (have hz : w = 6 := h1
         rw [hz]
         have z := (@zmOk_at v).2.2.2.2.2.2.1
         by_cases y : 0 ≤ v ∧ v ≤ 9
         · rw [if_pos y, if_pos (z.mpr y)]
         · rw [if_neg y, if_neg (fun x => y (z.mp x))])
      | (have hz : w = 7 := h1
         rw [hz]
         have z := (@zmOk_at v).2.2.2.2.2.2.2.1
         by_cases y : 0 ≤ v ∧ v ≤ 20
         · rw [if_pos y, if_pos (z.mpr y)]
         · rw [if_neg y, if_neg (fun x => y (z.mp x))])
      | (have hz : w = 8 := h1
         rw [hz]
         have z := (@zmOk_at v).2.2.2.2.2.2.2.2
         by_cases y : 0 ≤ v ∧ v ≤ 20
         · rw [if_pos y, if_pos (z.mpr y)]
         · rw [if_neg y, if_neg (fun x => y (z.mp x))])
      | (rw [if_neg]
         rcases (by omega : w = 4 ∨ w = 5 ∨ ¬ (4 ≤ w ∧ w ≤ 5)) with hz | hz | hz
         · rw [hz]; intro x; have := (@zmOk_at v).2.2.2.2.1.mp x; omega
         · rw [hz]; intro x; have := (@zmOk_at v).2.2.2.2.2.1.mp x; omega
         · intro x
           have := x.1
           have := x.2.1
           omega)
      | (rcases (by omega : w = 4 ∨ w = 5) with hz | hz
         · rw [hz, if_pos ((@zmOk_at v).2.2.2.2.1.mpr (by omega))]
         · rw [hz, if_pos ((@zmOk_at v).2.2.2.2.2.1.mpr (by omega))])
  · refine g_tableIn (dflt := 91) (lo := 0) (hi := 8) (offs := #[51, 60, 67, 51, 91, 91, 75, 83, 83]) (len := 51) (off := 60) (tgt := 61) (by decide +kernel) ⟨by omega, by omega⟩ (by omega) (by omega) (by rw [h1]; rfl) (by decide) ?_
    refine g_iload_n (i := 1) (by decide +kernel) rfl ?_
    refine g_iconst (a := 1) (by decide +kernel) ?_
    refine g_iconst (a := 4) (by decide +kernel) ?_
    refine g_cSI (st := _) (c_Md_isIn ⟨by omega, by omega⟩ ⟨by omega, by omega⟩ ⟨by omega, by omega⟩) k_Md_isIn l_Md_152 (by decide +kernel) rfl rfl (Nat.le_of_ble_eq_true rfl) (by decide) ⟨by decide, by decide⟩ ?_
    rintro a9 σ9 ⟨ea9, hσ9⟩
    obtain rfl := hσ9.symm
    subst ea9
    refine g_retI (by decide +kernel) rfl (Or.inr ⟨rfl, by split <;> omega⟩) ⟨by decide, by decide⟩ ?_
    refine ⟨?_, rfl⟩
    first
      | (have hz : w = 0 := h1
         rw [hz]
         have z := (@zmOk_at v).1
         by_cases y : 0 ≤ v ∧ v ≤ 999
         · rw [if_pos y, if_pos (z.mpr y)]
         · rw [if_neg y, if_neg (fun x => y (z.mp x))])
      | (have hz : w = 1 := h1
         rw [hz]
         have z := (@zmOk_at v).2.1
         by_cases y : 1 ≤ v ∧ v ≤ 4
         · rw [if_pos y, if_pos (z.mpr y)]
         · rw [if_neg y, if_neg (fun x => y (z.mp x))])
      | (have hz : w = 2 := h1
         rw [hz]
         have z := (@zmOk_at v).2.2.1
         by_cases y : 1 ≤ v ∧ v ≤ 9
         · rw [if_pos y, if_pos (z.mpr y)]
         · rw [if_neg y, if_neg (fun x => y (z.mp x))])
      | (have hz : w = 3 := h1
         rw [hz]
         have z := (@zmOk_at v).2.2.2.1
         by_cases y : 0 ≤ v ∧ v ≤ 999
         · rw [if_pos y, if_pos (z.mpr y)]
         · rw [if_neg y, if_neg (fun x => y (z.mp x))])
      | (have hz : w = 6 := h1
         rw [hz]
         have z := (@zmOk_at v).2.2.2.2.2.2.1
         by_cases y : 0 ≤ v ∧ v ≤ 9
         · rw [if_pos y, if_pos (z.mpr y)]
         · rw [if_neg y, if_neg (fun x => y (z.mp x))])
      | (have hz : w = 7 := h1
         rw [hz]
         have z := (@zmOk_at v).2.2.2.2.2.2.2.1
         by_cases y : 0 ≤ v ∧ v ≤ 20
         · rw [if_pos y, if_pos (z.mpr y)]
         · rw [if_neg y, if_neg (fun x => y (z.mp x))])
      | (have hz : w = 8 := h1
         rw [hz]
         have z := (@zmOk_at v).2.2.2.2.2.2.2.2
         by_cases y : 0 ≤ v ∧ v ≤ 20
         · rw [if_pos y, if_pos (z.mpr y)]
         · rw [if_neg y, if_neg (fun x => y (z.mp x))])
      | (rw [if_neg]
         rcases (by omega : w = 4 ∨ w = 5 ∨ ¬ (4 ≤ w ∧ w ≤ 5)) with hz | hz | hz
         · rw [hz]; intro x; have := (@zmOk_at v).2.2.2.2.1.mp x; omega
         · rw [hz]; intro x; have := (@zmOk_at v).2.2.2.2.2.1.mp x; omega
         · intro x
           have := x.1
           have := x.2.1
           omega)
      | (rcases (by omega : w = 4 ∨ w = 5) with hz | hz
         · rw [hz, if_pos ((@zmOk_at v).2.2.2.2.1.mpr (by omega))]
         · rw [hz, if_pos ((@zmOk_at v).2.2.2.2.2.1.mpr (by omega))])
  · refine g_tableIn (dflt := 91) (lo := 0) (hi := 8) (offs := #[51, 60, 67, 51, 91, 91, 75, 83, 83]) (len := 51) (off := 67) (tgt := 68) (by decide +kernel) ⟨by omega, by omega⟩ (by omega) (by omega) (by rw [h1]; rfl) (by decide) ?_
    refine g_iload_n (i := 1) (by decide +kernel) rfl ?_
    refine g_iconst (a := 1) (by decide +kernel) ?_
    refine g_bipush (a := 9) (by decide +kernel) (by decide) ?_
    refine g_cSI (st := _) (c_Md_isIn ⟨by omega, by omega⟩ ⟨by omega, by omega⟩ ⟨by omega, by omega⟩) k_Md_isIn l_Md_152 (by decide +kernel) rfl rfl (Nat.le_of_ble_eq_true rfl) (by decide) ⟨by decide, by decide⟩ ?_
    rintro a9 σ9 ⟨ea9, hσ9⟩
    obtain rfl := hσ9.symm
    subst ea9
    refine g_retI (by decide +kernel) rfl (Or.inr ⟨rfl, by split <;> omega⟩) ⟨by decide, by decide⟩ ?_
    refine ⟨?_, rfl⟩
    first
      | (have hz : w = 0 := h1
         rw [hz]
         have z := (@zmOk_at v).1
         by_cases y : 0 ≤ v ∧ v ≤ 999
         · rw [if_pos y, if_pos (z.mpr y)]
         · rw [if_neg y, if_neg (fun x => y (z.mp x))])
      | (have hz : w = 1 := h1
         rw [hz]
         have z := (@zmOk_at v).2.1
         by_cases y : 1 ≤ v ∧ v ≤ 4
         · rw [if_pos y, if_pos (z.mpr y)]
         · rw [if_neg y, if_neg (fun x => y (z.mp x))])
      | (have hz : w = 2 := h1
         rw [hz]
         have z := (@zmOk_at v).2.2.1
         by_cases y : 1 ≤ v ∧ v ≤ 9
         · rw [if_pos y, if_pos (z.mpr y)]
         · rw [if_neg y, if_neg (fun x => y (z.mp x))])
      | (have hz : w = 3 := h1
         rw [hz]
         have z := (@zmOk_at v).2.2.2.1
         by_cases y : 0 ≤ v ∧ v ≤ 999
         · rw [if_pos y, if_pos (z.mpr y)]
         · rw [if_neg y, if_neg (fun x => y (z.mp x))])
      | (have hz : w = 6 := h1
         rw [hz]
         have z := (@zmOk_at v).2.2.2.2.2.2.1
         by_cases y : 0 ≤ v ∧ v ≤ 9
         · rw [if_pos y, if_pos (z.mpr y)]
         · rw [if_neg y, if_neg (fun x => y (z.mp x))])
      | (have hz : w = 7 := h1
         rw [hz]
         have z := (@zmOk_at v).2.2.2.2.2.2.2.1
         by_cases y : 0 ≤ v ∧ v ≤ 20
         · rw [if_pos y, if_pos (z.mpr y)]
         · rw [if_neg y, if_neg (fun x => y (z.mp x))])
      | (have hz : w = 8 := h1
         rw [hz]
         have z := (@zmOk_at v).2.2.2.2.2.2.2.2
         by_cases y : 0 ≤ v ∧ v ≤ 20
         · rw [if_pos y, if_pos (z.mpr y)]
         · rw [if_neg y, if_neg (fun x => y (z.mp x))])
      | (rw [if_neg]
         rcases (by omega : w = 4 ∨ w = 5 ∨ ¬ (4 ≤ w ∧ w ≤ 5)) with hz | hz | hz
         · rw [hz]; intro x; have := (@zmOk_at v).2.2.2.2.1.mp x; omega
         · rw [hz]; intro x; have := (@zmOk_at v).2.2.2.2.2.1.mp x; omega
         · intro x
           have := x.1
           have := x.2.1
           omega)
      | (rcases (by omega : w = 4 ∨ w = 5) with hz | hz
         · rw [hz, if_pos ((@zmOk_at v).2.2.2.2.1.mpr (by omega))]
         · rw [hz, if_pos ((@zmOk_at v).2.2.2.2.2.1.mpr (by omega))])
  · refine g_tableIn (dflt := 91) (lo := 0) (hi := 8) (offs := #[51, 60, 67, 51, 91, 91, 75, 83, 83]) (len := 51) (off := 51) (tgt := 52) (by decide +kernel) ⟨by omega, by omega⟩ (by omega) (by omega) (by rw [h1]; rfl) (by decide) ?_
    refine g_iload_n (i := 1) (by decide +kernel) rfl ?_
    refine g_iconst (a := 0) (by decide +kernel) ?_
    refine g_sipush (a := 999) (by decide +kernel) (by decide) ?_
    refine g_cSI (st := _) (c_Md_isIn ⟨by omega, by omega⟩ ⟨by omega, by omega⟩ ⟨by omega, by omega⟩) k_Md_isIn l_Md_152 (by decide +kernel) rfl rfl (Nat.le_of_ble_eq_true rfl) (by decide) ⟨by decide, by decide⟩ ?_
    rintro a9 σ9 ⟨ea9, hσ9⟩
    obtain rfl := hσ9.symm
    subst ea9
    refine g_retI (by decide +kernel) rfl (Or.inr ⟨rfl, by split <;> omega⟩) ⟨by decide, by decide⟩ ?_
    refine ⟨?_, rfl⟩
    first
      | (have hz : w = 0 := h1
         rw [hz]
         have z := (@zmOk_at v).1
         by_cases y : 0 ≤ v ∧ v ≤ 999
         · rw [if_pos y, if_pos (z.mpr y)]
         · rw [if_neg y, if_neg (fun x => y (z.mp x))])
      | (have hz : w = 1 := h1
         rw [hz]
         have z := (@zmOk_at v).2.1
         by_cases y : 1 ≤ v ∧ v ≤ 4
         · rw [if_pos y, if_pos (z.mpr y)]
         · rw [if_neg y, if_neg (fun x => y (z.mp x))])
      | (have hz : w = 2 := h1
         rw [hz]
         have z := (@zmOk_at v).2.2.1
         by_cases y : 1 ≤ v ∧ v ≤ 9
         · rw [if_pos y, if_pos (z.mpr y)]
         · rw [if_neg y, if_neg (fun x => y (z.mp x))])
      | (have hz : w = 3 := h1
         rw [hz]
         have z := (@zmOk_at v).2.2.2.1
         by_cases y : 0 ≤ v ∧ v ≤ 999
         · rw [if_pos y, if_pos (z.mpr y)]
         · rw [if_neg y, if_neg (fun x => y (z.mp x))])
      | (have hz : w = 6 := h1
         rw [hz]
         have z := (@zmOk_at v).2.2.2.2.2.2.1
         by_cases y : 0 ≤ v ∧ v ≤ 9
         · rw [if_pos y, if_pos (z.mpr y)]
         · rw [if_neg y, if_neg (fun x => y (z.mp x))])
      | (have hz : w = 7 := h1
         rw [hz]
         have z := (@zmOk_at v).2.2.2.2.2.2.2.1
         by_cases y : 0 ≤ v ∧ v ≤ 20
         · rw [if_pos y, if_pos (z.mpr y)]
         · rw [if_neg y, if_neg (fun x => y (z.mp x))])
      | (have hz : w = 8 := h1
         rw [hz]
         have z := (@zmOk_at v).2.2.2.2.2.2.2.2
         by_cases y : 0 ≤ v ∧ v ≤ 20
         · rw [if_pos y, if_pos (z.mpr y)]
         · rw [if_neg y, if_neg (fun x => y (z.mp x))])
      | (rw [if_neg]
         rcases (by omega : w = 4 ∨ w = 5 ∨ ¬ (4 ≤ w ∧ w ≤ 5)) with hz | hz | hz
         · rw [hz]; intro x; have := (@zmOk_at v).2.2.2.2.1.mp x; omega
         · rw [hz]; intro x; have := (@zmOk_at v).2.2.2.2.2.1.mp x; omega
         · intro x
           have := x.1
           have := x.2.1
           omega)
      | (rcases (by omega : w = 4 ∨ w = 5) with hz | hz
         · rw [hz, if_pos ((@zmOk_at v).2.2.2.2.1.mpr (by omega))]
         · rw [hz, if_pos ((@zmOk_at v).2.2.2.2.2.1.mpr (by omega))])
  · refine g_tableIn (dflt := 91) (lo := 0) (hi := 8) (offs := #[51, 60, 67, 51, 91, 91, 75, 83, 83]) (len := 51) (off := 91) (tgt := 92) (by decide +kernel) ⟨by omega, by omega⟩ (by omega) (by omega) (by rw [h1]; rfl) (by decide) ?_
    refine g_iload_n (i := 0) (by decide +kernel) rfl ?_
    refine g_iconst (a := 4) (by decide +kernel) ?_
    refine g_iconst (a := 5) (by decide +kernel) ?_
    refine g_cSI (st := _) (c_Md_isIn ⟨by omega, by omega⟩ ⟨by omega, by omega⟩ ⟨by omega, by omega⟩) k_Md_isIn l_Md_152 (by decide +kernel) rfl rfl (Nat.le_of_ble_eq_true rfl) (by decide) ⟨by decide, by decide⟩ ?_
    rintro a9 σ9 ⟨ea9, hσ9⟩
    obtain rfl := hσ9.symm
    subst ea9
    refine g_if_eq (off := 16) (tgt := 114) (by decide +kernel) (by decide) zbr (fun h98 => ?_) (fun h98 => ?_)
    · have h98 := zb0.mp h98
      refine g_iconst (a := 0) (by decide +kernel) ?_
      refine g_retI (by decide +kernel) rfl (Or.inr ⟨rfl, by omega⟩) ⟨by decide, by decide⟩ ?_
      refine ⟨?_, rfl⟩
      first
        | (have hz : w = 0 := h1
           rw [hz]
           have z := (@zmOk_at v).1
           by_cases y : 0 ≤ v ∧ v ≤ 999
           · rw [if_pos y, if_pos (z.mpr y)]
           · rw [if_neg y, if_neg (fun x => y (z.mp x))])
        | (have hz : w = 1 := h1
           rw [hz]
           have z := (@zmOk_at v).2.1
           by_cases y : 1 ≤ v ∧ v ≤ 4
           · rw [if_pos y, if_pos (z.mpr y)]
           · rw [if_neg y, if_neg (fun x => y (z.mp x))])
        | (have hz : w = 2 := h1
           rw [hz]
           have z := (@zmOk_at v).2.2.1
           by_cases y : 1 ≤ v ∧ v ≤ 9
           · rw [if_pos y, if_pos (z.mpr y)]
           · rw [if_neg y, if_neg (fun x => y (z.mp x))])
        | (have hz : w = 3 := h1
           rw [hz]
           have z := (@zmOk_at v).2.2.2.1
           by_cases y : 0 ≤ v ∧ v ≤ 999
           · rw [if_pos y, if_pos (z.mpr y)]
           · rw [if_neg y, if_neg (fun x => y (z.mp x))])
        | (have hz : w = 6 := h1
           rw [hz]
           have z := (@zmOk_at v).2.2.2.2.2.2.1
           by_cases y : 0 ≤ v ∧ v ≤ 9
           · rw [if_pos y, if_pos (z.mpr y)]
           · rw [if_neg y, if_neg (fun x => y (z.mp x))])
        | (have hz : w = 7 := h1
           rw [hz]
           have z := (@zmOk_at v).2.2.2.2.2.2.2.1
           by_cases y : 0 ≤ v ∧ v ≤ 20
           · rw [if_pos y, if_pos (z.mpr y)]
           · rw [if_neg y, if_neg (fun x => y (z.mp x))])
        | (have hz : w = 8 := h1
           rw [hz]
           have z := (@zmOk_at v).2.2.2.2.2.2.2.2
           by_cases y : 0 ≤ v ∧ v ≤ 20
           · rw [if_pos y, if_pos (z.mpr y)]
           · rw [if_neg y, if_neg (fun x => y (z.mp x))])
        | (rw [if_neg]
           rcases (by omega : w = 4 ∨ w = 5 ∨ ¬ (4 ≤ w ∧ w ≤ 5)) with hz | hz | hz
           · rw [hz]; intro x; have := (@zmOk_at v).2.2.2.2.1.mp x; omega
           · rw [hz]; intro x; have := (@zmOk_at v).2.2.2.2.2.1.mp x; omega
           · intro x
             have := x.1
             have := x.2.1
             omega)
        | (rcases (by omega : w = 4 ∨ w = 5) with hz | hz
           · rw [hz, if_pos ((@zmOk_at v).2.2.2.2.1.mpr (by omega))]
           · rw [hz, if_pos ((@zmOk_at v).2.2.2.2.2.1.mpr (by omega))])
    · have h98 := zb1.mp h98
      refine g_iload_n (i := 1) (by decide +kernel) rfl ?_
      refine g_iconst (a := 0) (by decide +kernel) ?_
      refine g_iconst (a := 1) (by decide +kernel) ?_
      refine g_cSI (st := _) (c_Md_isIn ⟨by omega, by omega⟩ ⟨by omega, by omega⟩ ⟨by omega, by omega⟩) k_Md_isIn l_Md_152 (by decide +kernel) rfl rfl (Nat.le_of_ble_eq_true rfl) (by decide) ⟨by decide, by decide⟩ ?_
      rintro a9 σ9 ⟨ea9, hσ9⟩
      obtain rfl := hσ9.symm
      subst ea9
      refine g_if_eq (off := 7) (tgt := 114) (by decide +kernel) (by decide) zbr (fun h107 => ?_) (fun h107 => ?_)
      · have h107 := zb0.mp h107
        refine g_iconst (a := 0) (by decide +kernel) ?_
        refine g_retI (by decide +kernel) rfl (Or.inr ⟨rfl, by omega⟩) ⟨by decide, by decide⟩ ?_
        refine ⟨?_, rfl⟩
        first
          | (have hz : w = 0 := h1
             rw [hz]
             have z := (@zmOk_at v).1
             by_cases y : 0 ≤ v ∧ v ≤ 999
             · rw [if_pos y, if_pos (z.mpr y)]
             · rw [if_neg y, if_neg (fun x => y (z.mp x))])
          | (have hz : w = 1 := h1
             rw [hz]
             have z := (@zmOk_at v).2.1
             by_cases y : 1 ≤ v ∧ v ≤ 4
             · rw [if_pos y, if_pos (z.mpr y)]
             · rw [if_neg y, if_neg (fun x => y (z.mp x))])
          | (have hz : w = 2 := h1
             rw [hz]
             have z := (@zmOk_at v).2.2.1
             by_cases y : 1 ≤ v ∧ v ≤ 9
             · rw [if_pos y, if_pos (z.mpr y)]
             · rw [if_neg y, if_neg (fun x => y (z.mp x))])
          | (have hz : w = 3 := h1
             rw [hz]
             have z := (@zmOk_at v).2.2.2.1
             by_cases y : 0 ≤ v ∧ v ≤ 999
             · rw [if_pos y, if_pos (z.mpr y)]
             · rw [if_neg y, if_neg (fun x => y (z.mp x))])
          | (have hz : w = 6 := h1
             rw [hz]
             have z := (@zmOk_at v).2.2.2.2.2.2.1
             by_cases y : 0 ≤ v ∧ v ≤ 9
             · rw [if_pos y, if_pos (z.mpr y)]
             · rw [if_neg y, if_neg (fun x => y (z.mp x))])
          | (have hz : w = 7 := h1
             rw [hz]
             have z := (@zmOk_at v).2.2.2.2.2.2.2.1
             by_cases y : 0 ≤ v ∧ v ≤ 20
             · rw [if_pos y, if_pos (z.mpr y)]
             · rw [if_neg y, if_neg (fun x => y (z.mp x))])
          | (have hz : w = 8 := h1
             rw [hz]
             have z := (@zmOk_at v).2.2.2.2.2.2.2.2
             by_cases y : 0 ≤ v ∧ v ≤ 20
             · rw [if_pos y, if_pos (z.mpr y)]
             · rw [if_neg y, if_neg (fun x => y (z.mp x))])
          | (rw [if_neg]
             rcases (by omega : w = 4 ∨ w = 5 ∨ ¬ (4 ≤ w ∧ w ≤ 5)) with hz | hz | hz
             · rw [hz]; intro x; have := (@zmOk_at v).2.2.2.2.1.mp x; omega
             · rw [hz]; intro x; have := (@zmOk_at v).2.2.2.2.2.1.mp x; omega
             · intro x
               have := x.1
               have := x.2.1
               omega)
          | (rcases (by omega : w = 4 ∨ w = 5) with hz | hz
             · rw [hz, if_pos ((@zmOk_at v).2.2.2.2.1.mpr (by omega))]
             · rw [hz, if_pos ((@zmOk_at v).2.2.2.2.2.1.mpr (by omega))])
      · have h107 := zb1.mp h107
        refine g_iconst (a := 1) (by decide +kernel) ?_
        refine g_goto (off := 4) (tgt := 115) (by decide +kernel) (by decide) ?_
        refine g_retI (by decide +kernel) rfl (Or.inr ⟨rfl, by omega⟩) ⟨by decide, by decide⟩ ?_
        refine ⟨?_, rfl⟩
        first
          | (have hz : w = 0 := h1
             rw [hz]
             have z := (@zmOk_at v).1
             by_cases y : 0 ≤ v ∧ v ≤ 999
             · rw [if_pos y, if_pos (z.mpr y)]
             · rw [if_neg y, if_neg (fun x => y (z.mp x))])
          | (have hz : w = 1 := h1
             rw [hz]
             have z := (@zmOk_at v).2.1
             by_cases y : 1 ≤ v ∧ v ≤ 4
             · rw [if_pos y, if_pos (z.mpr y)]
             · rw [if_neg y, if_neg (fun x => y (z.mp x))])
          | (have hz : w = 2 := h1
             rw [hz]
             have z := (@zmOk_at v).2.2.1
             by_cases y : 1 ≤ v ∧ v ≤ 9
             · rw [if_pos y, if_pos (z.mpr y)]
             · rw [if_neg y, if_neg (fun x => y (z.mp x))])
          | (have hz : w = 3 := h1
             rw [hz]
             have z := (@zmOk_at v).2.2.2.1
             by_cases y : 0 ≤ v ∧ v ≤ 999
             · rw [if_pos y, if_pos (z.mpr y)]
             · rw [if_neg y, if_neg (fun x => y (z.mp x))])
          | (have hz : w = 6 := h1
             rw [hz]
             have z := (@zmOk_at v).2.2.2.2.2.2.1
             by_cases y : 0 ≤ v ∧ v ≤ 9
             · rw [if_pos y, if_pos (z.mpr y)]
             · rw [if_neg y, if_neg (fun x => y (z.mp x))])
          | (have hz : w = 7 := h1
             rw [hz]
             have z := (@zmOk_at v).2.2.2.2.2.2.2.1
             by_cases y : 0 ≤ v ∧ v ≤ 20
             · rw [if_pos y, if_pos (z.mpr y)]
             · rw [if_neg y, if_neg (fun x => y (z.mp x))])
          | (have hz : w = 8 := h1
             rw [hz]
             have z := (@zmOk_at v).2.2.2.2.2.2.2.2
             by_cases y : 0 ≤ v ∧ v ≤ 20
             · rw [if_pos y, if_pos (z.mpr y)]
             · rw [if_neg y, if_neg (fun x => y (z.mp x))])
          | (rw [if_neg]
             rcases (by omega : w = 4 ∨ w = 5 ∨ ¬ (4 ≤ w ∧ w ≤ 5)) with hz | hz | hz
             · rw [hz]; intro x; have := (@zmOk_at v).2.2.2.2.1.mp x; omega
             · rw [hz]; intro x; have := (@zmOk_at v).2.2.2.2.2.1.mp x; omega
             · intro x
               have := x.1
               have := x.2.1
               omega)
          | (rcases (by omega : w = 4 ∨ w = 5) with hz | hz
             · rw [hz, if_pos ((@zmOk_at v).2.2.2.2.1.mpr (by omega))]
             · rw [hz, if_pos ((@zmOk_at v).2.2.2.2.2.1.mpr (by omega))])
  · refine g_tableIn (dflt := 91) (lo := 0) (hi := 8) (offs := #[51, 60, 67, 51, 91, 91, 75, 83, 83]) (len := 51) (off := 91) (tgt := 92) (by decide +kernel) ⟨by omega, by omega⟩ (by omega) (by omega) (by rw [h1]; rfl) (by decide) ?_
    refine g_iload_n (i := 0) (by decide +kernel) rfl ?_
    refine g_iconst (a := 4) (by decide +kernel) ?_
    refine g_iconst (a := 5) (by decide +kernel) ?_
    refine g_cSI (st := _) (c_Md_isIn ⟨by omega, by omega⟩ ⟨by omega, by omega⟩ ⟨by omega, by omega⟩) k_Md_isIn l_Md_152 (by decide +kernel) rfl rfl (Nat.le_of_ble_eq_true rfl) (by decide) ⟨by decide, by decide⟩ ?_
    rintro a9 σ9 ⟨ea9, hσ9⟩
    obtain rfl := hσ9.symm
    subst ea9
    refine g_if_eq (off := 16) (tgt := 114) (by decide +kernel) (by decide) zbr (fun h98 => ?_) (fun h98 => ?_)
    · have h98 := zb0.mp h98
      refine g_iconst (a := 0) (by decide +kernel) ?_
      refine g_retI (by decide +kernel) rfl (Or.inr ⟨rfl, by omega⟩) ⟨by decide, by decide⟩ ?_
      refine ⟨?_, rfl⟩
      first
        | (have hz : w = 0 := h1
           rw [hz]
           have z := (@zmOk_at v).1
           by_cases y : 0 ≤ v ∧ v ≤ 999
           · rw [if_pos y, if_pos (z.mpr y)]
           · rw [if_neg y, if_neg (fun x => y (z.mp x))])
        | (have hz : w = 1 := h1
           rw [hz]
           have z := (@zmOk_at v).2.1
           by_cases y : 1 ≤ v ∧ v ≤ 4
           · rw [if_pos y, if_pos (z.mpr y)]
           · rw [if_neg y, if_neg (fun x => y (z.mp x))])
        | (have hz : w = 2 := h1
           rw [hz]
           have z := (@zmOk_at v).2.2.1
           by_cases y : 1 ≤ v ∧ v ≤ 9
           · rw [if_pos y, if_pos (z.mpr y)]
           · rw [if_neg y, if_neg (fun x => y (z.mp x))])
        | (have hz : w = 3 := h1
           rw [hz]
           have z := (@zmOk_at v).2.2.2.1
           by_cases y : 0 ≤ v ∧ v ≤ 999
           · rw [if_pos y, if_pos (z.mpr y)]
           · rw [if_neg y, if_neg (fun x => y (z.mp x))])
        | (have hz : w = 6 := h1
           rw [hz]
           have z := (@zmOk_at v).2.2.2.2.2.2.1
           by_cases y : 0 ≤ v ∧ v ≤ 9
           · rw [if_pos y, if_pos (z.mpr y)]
           · rw [if_neg y, if_neg (fun x => y (z.mp x))])
        | (have hz : w = 7 := h1
           rw [hz]
           have z := (@zmOk_at v).2.2.2.2.2.2.2.1
           by_cases y : 0 ≤ v ∧ v ≤ 20
           · rw [if_pos y, if_pos (z.mpr y)]
           · rw [if_neg y, if_neg (fun x => y (z.mp x))])
        | (have hz : w = 8 := h1
           rw [hz]
           have z := (@zmOk_at v).2.2.2.2.2.2.2.2
           by_cases y : 0 ≤ v ∧ v ≤ 20
           · rw [if_pos y, if_pos (z.mpr y)]
           · rw [if_neg y, if_neg (fun x => y (z.mp x))])
        | (rw [if_neg]
           rcases (by omega : w = 4 ∨ w = 5 ∨ ¬ (4 ≤ w ∧ w ≤ 5)) with hz | hz | hz
           · rw [hz]; intro x; have := (@zmOk_at v).2.2.2.2.1.mp x; omega
           · rw [hz]; intro x; have := (@zmOk_at v).2.2.2.2.2.1.mp x; omega
           · intro x
             have := x.1
             have := x.2.1
             omega)
        | (rcases (by omega : w = 4 ∨ w = 5) with hz | hz
           · rw [hz, if_pos ((@zmOk_at v).2.2.2.2.1.mpr (by omega))]
           · rw [hz, if_pos ((@zmOk_at v).2.2.2.2.2.1.mpr (by omega))])
    · have h98 := zb1.mp h98
      refine g_iload_n (i := 1) (by decide +kernel) rfl ?_
      refine g_iconst (a := 0) (by decide +kernel) ?_
      refine g_iconst (a := 1) (by decide +kernel) ?_
      refine g_cSI (st := _) (c_Md_isIn ⟨by omega, by omega⟩ ⟨by omega, by omega⟩ ⟨by omega, by omega⟩) k_Md_isIn l_Md_152 (by decide +kernel) rfl rfl (Nat.le_of_ble_eq_true rfl) (by decide) ⟨by decide, by decide⟩ ?_
      rintro a9 σ9 ⟨ea9, hσ9⟩
      obtain rfl := hσ9.symm
      subst ea9
      refine g_if_eq (off := 7) (tgt := 114) (by decide +kernel) (by decide) zbr (fun h107 => ?_) (fun h107 => ?_)
      · have h107 := zb0.mp h107
        refine g_iconst (a := 0) (by decide +kernel) ?_
        refine g_retI (by decide +kernel) rfl (Or.inr ⟨rfl, by omega⟩) ⟨by decide, by decide⟩ ?_
        refine ⟨?_, rfl⟩
        first
          | (have hz : w = 0 := h1
             rw [hz]
             have z := (@zmOk_at v).1
             by_cases y : 0 ≤ v ∧ v ≤ 999
             · rw [if_pos y, if_pos (z.mpr y)]
             · rw [if_neg y, if_neg (fun x => y (z.mp x))])
          | (have hz : w = 1 := h1
             rw [hz]
             have z := (@zmOk_at v).2.1
             by_cases y : 1 ≤ v ∧ v ≤ 4
             · rw [if_pos y, if_pos (z.mpr y)]
             · rw [if_neg y, if_neg (fun x => y (z.mp x))])
          | (have hz : w = 2 := h1
             rw [hz]
             have z := (@zmOk_at v).2.2.1
             by_cases y : 1 ≤ v ∧ v ≤ 9
             · rw [if_pos y, if_pos (z.mpr y)]
             · rw [if_neg y, if_neg (fun x => y (z.mp x))])
          | (have hz : w = 3 := h1
             rw [hz]
             have z := (@zmOk_at v).2.2.2.1
             by_cases y : 0 ≤ v ∧ v ≤ 999
             · rw [if_pos y, if_pos (z.mpr y)]
             · rw [if_neg y, if_neg (fun x => y (z.mp x))])
          | (have hz : w = 6 := h1
             rw [hz]
             have z := (@zmOk_at v).2.2.2.2.2.2.1
             by_cases y : 0 ≤ v ∧ v ≤ 9
             · rw [if_pos y, if_pos (z.mpr y)]
             · rw [if_neg y, if_neg (fun x => y (z.mp x))])
          | (have hz : w = 7 := h1
             rw [hz]
             have z := (@zmOk_at v).2.2.2.2.2.2.2.1
             by_cases y : 0 ≤ v ∧ v ≤ 20
             · rw [if_pos y, if_pos (z.mpr y)]
             · rw [if_neg y, if_neg (fun x => y (z.mp x))])
          | (have hz : w = 8 := h1
             rw [hz]
             have z := (@zmOk_at v).2.2.2.2.2.2.2.2
             by_cases y : 0 ≤ v ∧ v ≤ 20
             · rw [if_pos y, if_pos (z.mpr y)]
             · rw [if_neg y, if_neg (fun x => y (z.mp x))])
          | (rw [if_neg]
             rcases (by omega : w = 4 ∨ w = 5 ∨ ¬ (4 ≤ w ∧ w ≤ 5)) with hz | hz | hz
             · rw [hz]; intro x; have := (@zmOk_at v).2.2.2.2.1.mp x; omega
             · rw [hz]; intro x; have := (@zmOk_at v).2.2.2.2.2.1.mp x; omega
             · intro x
               have := x.1
               have := x.2.1
               omega)
          | (rcases (by omega : w = 4 ∨ w = 5) with hz | hz
             · rw [hz, if_pos ((@zmOk_at v).2.2.2.2.1.mpr (by omega))]
             · rw [hz, if_pos ((@zmOk_at v).2.2.2.2.2.1.mpr (by omega))])
      · have h107 := zb1.mp h107
        refine g_iconst (a := 1) (by decide +kernel) ?_
        refine g_goto (off := 4) (tgt := 115) (by decide +kernel) (by decide) ?_
        refine g_retI (by decide +kernel) rfl (Or.inr ⟨rfl, by omega⟩) ⟨by decide, by decide⟩ ?_
        refine ⟨?_, rfl⟩
        first
          | (have hz : w = 0 := h1
             rw [hz]
             have z := (@zmOk_at v).1
             by_cases y : 0 ≤ v ∧ v ≤ 999
             · rw [if_pos y, if_pos (z.mpr y)]
             · rw [if_neg y, if_neg (fun x => y (z.mp x))])
          | (have hz : w = 1 := h1
             rw [hz]
             have z := (@zmOk_at v).2.1
             by_cases y : 1 ≤ v ∧ v ≤ 4
             · rw [if_pos y, if_pos (z.mpr y)]
             · rw [if_neg y, if_neg (fun x => y (z.mp x))])
          | (have hz : w = 2 := h1
             rw [hz]
             have z := (@zmOk_at v).2.2.1
             by_cases y : 1 ≤ v ∧ v ≤ 9
             · rw [if_pos y, if_pos (z.mpr y)]
             · rw [if_neg y, if_neg (fun x => y (z.mp x))])
          | (have hz : w = 3 := h1
             rw [hz]
             have z := (@zmOk_at v).2.2.2.1
             by_cases y : 0 ≤ v ∧ v ≤ 999
             · rw [if_pos y, if_pos (z.mpr y)]
             · rw [if_neg y, if_neg (fun x => y (z.mp x))])
          | (have hz : w = 6 := h1
             rw [hz]
             have z := (@zmOk_at v).2.2.2.2.2.2.1
             by_cases y : 0 ≤ v ∧ v ≤ 9
             · rw [if_pos y, if_pos (z.mpr y)]
             · rw [if_neg y, if_neg (fun x => y (z.mp x))])
          | (have hz : w = 7 := h1
             rw [hz]
             have z := (@zmOk_at v).2.2.2.2.2.2.2.1
             by_cases y : 0 ≤ v ∧ v ≤ 20
             · rw [if_pos y, if_pos (z.mpr y)]
             · rw [if_neg y, if_neg (fun x => y (z.mp x))])
          | (have hz : w = 8 := h1
             rw [hz]
             have z := (@zmOk_at v).2.2.2.2.2.2.2.2
             by_cases y : 0 ≤ v ∧ v ≤ 20
             · rw [if_pos y, if_pos (z.mpr y)]
             · rw [if_neg y, if_neg (fun x => y (z.mp x))])
          | (rw [if_neg]
             rcases (by omega : w = 4 ∨ w = 5 ∨ ¬ (4 ≤ w ∧ w ≤ 5)) with hz | hz | hz
             · rw [hz]; intro x; have := (@zmOk_at v).2.2.2.2.1.mp x; omega
             · rw [hz]; intro x; have := (@zmOk_at v).2.2.2.2.2.1.mp x; omega
             · intro x
               have := x.1
               have := x.2.1
               omega)
          | (rcases (by omega : w = 4 ∨ w = 5) with hz | hz
             · rw [hz, if_pos ((@zmOk_at v).2.2.2.2.1.mpr (by omega))]
             · rw [hz, if_pos ((@zmOk_at v).2.2.2.2.2.1.mpr (by omega))])
  · refine g_tableIn (dflt := 91) (lo := 0) (hi := 8) (offs := #[51, 60, 67, 51, 91, 91, 75, 83, 83]) (len := 51) (off := 75) (tgt := 76) (by decide +kernel) ⟨by omega, by omega⟩ (by omega) (by omega) (by rw [h1]; rfl) (by decide) ?_
    refine g_iload_n (i := 1) (by decide +kernel) rfl ?_
    refine g_iconst (a := 0) (by decide +kernel) ?_
    refine g_bipush (a := 9) (by decide +kernel) (by decide) ?_
    refine g_cSI (st := _) (c_Md_isIn ⟨by omega, by omega⟩ ⟨by omega, by omega⟩ ⟨by omega, by omega⟩) k_Md_isIn l_Md_152 (by decide +kernel) rfl rfl (Nat.le_of_ble_eq_true rfl) (by decide) ⟨by decide, by decide⟩ ?_
    rintro a9 σ9 ⟨ea9, hσ9⟩
    obtain rfl := hσ9.symm
    subst ea9
    refine g_retI (by decide +kernel) rfl (Or.inr ⟨rfl, by split <;> omega⟩) ⟨by decide, by decide⟩ ?_
    refine ⟨?_, rfl⟩
    first
      | (have hz : w = 0 := h1
         rw [hz]
         have z := (@zmOk_at v).1
         by_cases y : 0 ≤ v ∧ v ≤ 999
         · rw [if_pos y, if_pos (z.mpr y)]
         · rw [if_neg y, if_neg (fun x => y (z.mp x))])
      | (have hz : w = 1 := h1
         rw [hz]
         have z := (@zmOk_at v).2.1
         by_cases y : 1 ≤ v ∧ v ≤ 4
         · rw [if_pos y, if_pos (z.mpr y)]
         · rw [if_neg y, if_neg (fun x => y (z.mp x))])
      | (have hz : w = 2 := h1
         rw [hz]
         have z := (@zmOk_at v).2.2.1
         by_cases y : 1 ≤ v ∧ v ≤ 9
         · rw [if_pos y, if_pos (z.mpr y)]
         · rw [if_neg y, if_neg (fun x => y (z.mp x))])
      | (have hz : w = 3 := h1
         rw [hz]
         have z := (@zmOk_at v).2.2.2.1
         by_cases y : 0 ≤ v ∧ v ≤ 999
         · rw [if_pos y, if_pos (z.mpr y)]
         · rw [if_neg y, if_neg (fun x => y (z.mp x))])
      | (have hz : w = 6 := h1
         rw [hz]
         have z := (@zmOk_at v).2.2.2.2.2.2.1
         by_cases y : 0 ≤ v ∧ v ≤ 9
         · rw [if_pos y, if_pos (z.mpr y)]
         · rw [if_neg y, if_neg (fun x => y (z.mp x))])
      | (have hz : w = 7 := h1
         rw [hz]
         have z := (@zmOk_at v).2.2.2.2.2.2.2.1
         by_cases y : 0 ≤ v ∧ v ≤ 20
         · rw [if_pos y, if_pos (z.mpr y)]
         · rw [if_neg y, if_neg (fun x => y (z.mp x))])
      | (have hz : w = 8 := h1
         rw [hz]
         have z := (@zmOk_at v).2.2.2.2.2.2.2.2
         by_cases y : 0 ≤ v ∧ v ≤ 20
         · rw [if_pos y, if_pos (z.mpr y)]
         · rw [if_neg y, if_neg (fun x => y (z.mp x))])
      | (rw [if_neg]
         rcases (by omega : w = 4 ∨ w = 5 ∨ ¬ (4 ≤ w ∧ w ≤ 5)) with hz | hz | hz
         · rw [hz]; intro x; have := (@zmOk_at v).2.2.2.2.1.mp x; omega
         · rw [hz]; intro x; have := (@zmOk_at v).2.2.2.2.2.1.mp x; omega
         · intro x
           have := x.1
           have := x.2.1
           omega)
      | (rcases (by omega : w = 4 ∨ w = 5) with hz | hz
         · rw [hz, if_pos ((@zmOk_at v).2.2.2.2.1.mpr (by omega))]
         · rw [hz, if_pos ((@zmOk_at v).2.2.2.2.2.1.mpr (by omega))])
  · refine g_tableIn (dflt := 91) (lo := 0) (hi := 8) (offs := #[51, 60, 67, 51, 91, 91, 75, 83, 83]) (len := 51) (off := 83) (tgt := 84) (by decide +kernel) ⟨by omega, by omega⟩ (by omega) (by omega) (by rw [h1]; rfl) (by decide) ?_
    refine g_iload_n (i := 1) (by decide +kernel) rfl ?_
    refine g_iconst (a := 0) (by decide +kernel) ?_
    refine g_bipush (a := 20) (by decide +kernel) (by decide) ?_
    refine g_cSI (st := _) (c_Md_isIn ⟨by omega, by omega⟩ ⟨by omega, by omega⟩ ⟨by omega, by omega⟩) k_Md_isIn l_Md_152 (by decide +kernel) rfl rfl (Nat.le_of_ble_eq_true rfl) (by decide) ⟨by decide, by decide⟩ ?_
    rintro a9 σ9 ⟨ea9, hσ9⟩
    obtain rfl := hσ9.symm
    subst ea9
    refine g_retI (by decide +kernel) rfl (Or.inr ⟨rfl, by split <;> omega⟩) ⟨by decide, by decide⟩ ?_
    refine ⟨?_, rfl⟩
    first
      | (have hz : w = 0 := h1
         rw [hz]
         have z := (@zmOk_at v).1
         by_cases y : 0 ≤ v ∧ v ≤ 999
         · rw [if_pos y, if_pos (z.mpr y)]
         · rw [if_neg y, if_neg (fun x => y (z.mp x))])
      | (have hz : w = 1 := h1
         rw [hz]
         have z := (@zmOk_at v).2.1
         by_cases y : 1 ≤ v ∧ v ≤ 4
         · rw [if_pos y, if_pos (z.mpr y)]
         · rw [if_neg y, if_neg (fun x => y (z.mp x))])
      | (have hz : w = 2 := h1
         rw [hz]
         have z := (@zmOk_at v).2.2.1
         by_cases y : 1 ≤ v ∧ v ≤ 9
         · rw [if_pos y, if_pos (z.mpr y)]
         · rw [if_neg y, if_neg (fun x => y (z.mp x))])
      | (have hz : w = 3 := h1
         rw [hz]
         have z := (@zmOk_at v).2.2.2.1
         by_cases y : 0 ≤ v ∧ v ≤ 999
         · rw [if_pos y, if_pos (z.mpr y)]
         · rw [if_neg y, if_neg (fun x => y (z.mp x))])
      | (have hz : w = 6 := h1
         rw [hz]
         have z := (@zmOk_at v).2.2.2.2.2.2.1
         by_cases y : 0 ≤ v ∧ v ≤ 9
         · rw [if_pos y, if_pos (z.mpr y)]
         · rw [if_neg y, if_neg (fun x => y (z.mp x))])
      | (have hz : w = 7 := h1
         rw [hz]
         have z := (@zmOk_at v).2.2.2.2.2.2.2.1
         by_cases y : 0 ≤ v ∧ v ≤ 20
         · rw [if_pos y, if_pos (z.mpr y)]
         · rw [if_neg y, if_neg (fun x => y (z.mp x))])
      | (have hz : w = 8 := h1
         rw [hz]
         have z := (@zmOk_at v).2.2.2.2.2.2.2.2
         by_cases y : 0 ≤ v ∧ v ≤ 20
         · rw [if_pos y, if_pos (z.mpr y)]
         · rw [if_neg y, if_neg (fun x => y (z.mp x))])
      | (rw [if_neg]
         rcases (by omega : w = 4 ∨ w = 5 ∨ ¬ (4 ≤ w ∧ w ≤ 5)) with hz | hz | hz
         · rw [hz]; intro x; have := (@zmOk_at v).2.2.2.2.1.mp x; omega
         · rw [hz]; intro x; have := (@zmOk_at v).2.2.2.2.2.1.mp x; omega
         · intro x
           have := x.1
           have := x.2.1
           omega)
      | (rcases (by omega : w = 4 ∨ w = 5) with hz | hz
         · rw [hz, if_pos ((@zmOk_at v).2.2.2.2.1.mpr (by omega))]
         · rw [hz, if_pos ((@zmOk_at v).2.2.2.2.2.1.mpr (by omega))])
  · refine g_tableIn (dflt := 91) (lo := 0) (hi := 8) (offs := #[51, 60, 67, 51, 91, 91, 75, 83, 83]) (len := 51) (off := 83) (tgt := 84) (by decide +kernel) ⟨by omega, by omega⟩ (by omega) (by omega) (by rw [h1]; rfl) (by decide) ?_
    refine g_iload_n (i := 1) (by decide +kernel) rfl ?_
    refine g_iconst (a := 0) (by decide +kernel) ?_
    refine g_bipush (a := 20) (by decide +kernel) (by decide) ?_
    refine g_cSI (st := _) (c_Md_isIn ⟨by omega, by omega⟩ ⟨by omega, by omega⟩ ⟨by omega, by omega⟩) k_Md_isIn l_Md_152 (by decide +kernel) rfl rfl (Nat.le_of_ble_eq_true rfl) (by decide) ⟨by decide, by decide⟩ ?_
    rintro a9 σ9 ⟨ea9, hσ9⟩
    obtain rfl := hσ9.symm
    subst ea9
    refine g_retI (by decide +kernel) rfl (Or.inr ⟨rfl, by split <;> omega⟩) ⟨by decide, by decide⟩ ?_
    refine ⟨?_, rfl⟩
    first
      | (have hz : w = 0 := h1
         rw [hz]
         have z := (@zmOk_at v).1
         by_cases y : 0 ≤ v ∧ v ≤ 999
         · rw [if_pos y, if_pos (z.mpr y)]
         · rw [if_neg y, if_neg (fun x => y (z.mp x))])
      | (have hz : w = 1 := h1
         rw [hz]
         have z := (@zmOk_at v).2.1
         by_cases y : 1 ≤ v ∧ v ≤ 4
         · rw [if_pos y, if_pos (z.mpr y)]
         · rw [if_neg y, if_neg (fun x => y (z.mp x))])
      | (have hz : w = 2 := h1
         rw [hz]
         have z := (@zmOk_at v).2.2.1
         by_cases y : 1 ≤ v ∧ v ≤ 9
         · rw [if_pos y, if_pos (z.mpr y)]
         · rw [if_neg y, if_neg (fun x => y (z.mp x))])
      | (have hz : w = 3 := h1
         rw [hz]
         have z := (@zmOk_at v).2.2.2.1
         by_cases y : 0 ≤ v ∧ v ≤ 999
         · rw [if_pos y, if_pos (z.mpr y)]
         · rw [if_neg y, if_neg (fun x => y (z.mp x))])
      | (have hz : w = 6 := h1
         rw [hz]
         have z := (@zmOk_at v).2.2.2.2.2.2.1
         by_cases y : 0 ≤ v ∧ v ≤ 9
         · rw [if_pos y, if_pos (z.mpr y)]
         · rw [if_neg y, if_neg (fun x => y (z.mp x))])
      | (have hz : w = 7 := h1
         rw [hz]
         have z := (@zmOk_at v).2.2.2.2.2.2.2.1
         by_cases y : 0 ≤ v ∧ v ≤ 20
         · rw [if_pos y, if_pos (z.mpr y)]
         · rw [if_neg y, if_neg (fun x => y (z.mp x))])
      | (have hz : w = 8 := h1
         rw [hz]
         have z := (@zmOk_at v).2.2.2.2.2.2.2.2
         by_cases y : 0 ≤ v ∧ v ≤ 20
         · rw [if_pos y, if_pos (z.mpr y)]
         · rw [if_neg y, if_neg (fun x => y (z.mp x))])
      | (rw [if_neg]
         rcases (by omega : w = 4 ∨ w = 5 ∨ ¬ (4 ≤ w ∧ w ≤ 5)) with hz | hz | hz
         · rw [hz]; intro x; have := (@zmOk_at v).2.2.2.2.1.mp x; omega
         · rw [hz]; intro x; have := (@zmOk_at v).2.2.2.2.2.1.mp x; omega
         · intro x
           have := x.1
           have := x.2.1
           omega)
      | (rcases (by omega : w = 4 ∨ w = 5) with hz | hz
         · rw [hz, if_pos ((@zmOk_at v).2.2.2.2.1.mpr (by omega))]
         · rw [hz, if_pos ((@zmOk_at v).2.2.2.2.2.1.mpr (by omega))])
  · refine g_tableOut (dflt := 91) (lo := 0) (hi := 8) (offs := #[51, 60, 67, 51, 91, 91, 75, 83, 83]) (len := 51) (tgt := 92) (by decide +kernel) ⟨by omega, by omega⟩ h1 (by decide) ?_
    refine g_iload_n (i := 0) (by decide +kernel) rfl ?_
    refine g_iconst (a := 4) (by decide +kernel) ?_
    refine g_iconst (a := 5) (by decide +kernel) ?_
    refine g_cSI (st := _) (c_Md_isIn ⟨by omega, by omega⟩ ⟨by omega, by omega⟩ ⟨by omega, by omega⟩) k_Md_isIn l_Md_152 (by decide +kernel) rfl rfl (Nat.le_of_ble_eq_true rfl) (by decide) ⟨by decide, by decide⟩ ?_
    rintro a9 σ9 ⟨ea9, hσ9⟩
    obtain rfl := hσ9.symm
    subst ea9
    refine g_if_eq (off := 16) (tgt := 114) (by decide +kernel) (by decide) zbr (fun h98 => ?_) (fun h98 => ?_)
    · have h98 := zb0.mp h98
      refine g_iconst (a := 0) (by decide +kernel) ?_
      refine g_retI (by decide +kernel) rfl (Or.inr ⟨rfl, by omega⟩) ⟨by decide, by decide⟩ ?_
      refine ⟨?_, rfl⟩
      first
        | (have hz : w = 0 := h1
           rw [hz]
           have z := (@zmOk_at v).1
           by_cases y : 0 ≤ v ∧ v ≤ 999
           · rw [if_pos y, if_pos (z.mpr y)]
           · rw [if_neg y, if_neg (fun x => y (z.mp x))])
        | (have hz : w = 1 := h1
           rw [hz]
           have z := (@zmOk_at v).2.1
           by_cases y : 1 ≤ v ∧ v ≤ 4
           · rw [if_pos y, if_pos (z.mpr y)]
           · rw [if_neg y, if_neg (fun x => y (z.mp x))])
        | (have hz : w = 2 := h1
           rw [hz]
           have z := (@zmOk_at v).2.2.1
           by_cases y : 1 ≤ v ∧ v ≤ 9
           · rw [if_pos y, if_pos (z.mpr y)]
           · rw [if_neg y, if_neg (fun x => y (z.mp x))])
        | (have hz : w = 3 := h1
           rw [hz]
           have z := (@zmOk_at v).2.2.2.1
           by_cases y : 0 ≤ v ∧ v ≤ 999
           · rw [if_pos y, if_pos (z.mpr y)]
           · rw [if_neg y, if_neg (fun x => y (z.mp x))])
        | (have hz : w = 6 := h1
           rw [hz]
           have z := (@zmOk_at v).2.2.2.2.2.2.1
           by_cases y : 0 ≤ v ∧ v ≤ 9
           · rw [if_pos y, if_pos (z.mpr y)]
           · rw [if_neg y, if_neg (fun x => y (z.mp x))])
        | (have hz : w = 7 := h1
           rw [hz]
           have z := (@zmOk_at v).2.2.2.2.2.2.2.1
           by_cases y : 0 ≤ v ∧ v ≤ 20
           · rw [if_pos y, if_pos (z.mpr y)]
           · rw [if_neg y, if_neg (fun x => y (z.mp x))])
        | (have hz : w = 8 := h1
           rw [hz]
           have z := (@zmOk_at v).2.2.2.2.2.2.2.2
           by_cases y : 0 ≤ v ∧ v ≤ 20
           · rw [if_pos y, if_pos (z.mpr y)]
           · rw [if_neg y, if_neg (fun x => y (z.mp x))])
        | (rw [if_neg]
           rcases (by omega : w = 4 ∨ w = 5 ∨ ¬ (4 ≤ w ∧ w ≤ 5)) with hz | hz | hz
           · rw [hz]; intro x; have := (@zmOk_at v).2.2.2.2.1.mp x; omega
           · rw [hz]; intro x; have := (@zmOk_at v).2.2.2.2.2.1.mp x; omega
           · intro x
             have := x.1
             have := x.2.1
             omega)
        | (rcases (by omega : w = 4 ∨ w = 5) with hz | hz
           · rw [hz, if_pos ((@zmOk_at v).2.2.2.2.1.mpr (by omega))]
           · rw [hz, if_pos ((@zmOk_at v).2.2.2.2.2.1.mpr (by omega))])
    · have h98 := zb1.mp h98
      refine g_iload_n (i := 1) (by decide +kernel) rfl ?_
      refine g_iconst (a := 0) (by decide +kernel) ?_
      refine g_iconst (a := 1) (by decide +kernel) ?_
      refine g_cSI (st := _) (c_Md_isIn ⟨by omega, by omega⟩ ⟨by omega, by omega⟩ ⟨by omega, by omega⟩) k_Md_isIn l_Md_152 (by decide +kernel) rfl rfl (Nat.le_of_ble_eq_true rfl) (by decide) ⟨by decide, by decide⟩ ?_
      rintro a9 σ9 ⟨ea9, hσ9⟩
      obtain rfl := hσ9.symm
      subst ea9
      refine g_if_eq (off := 7) (tgt := 114) (by decide +kernel) (by decide) zbr (fun h107 => ?_) (fun h107 => ?_)
      · have h107 := zb0.mp h107
        refine g_iconst (a := 0) (by decide +kernel) ?_
        refine g_retI (by decide +kernel) rfl (Or.inr ⟨rfl, by omega⟩) ⟨by decide, by decide⟩ ?_
        refine ⟨?_, rfl⟩
        first
          | (have hz : w = 0 := h1
             rw [hz]
             have z := (@zmOk_at v).1
             by_cases y : 0 ≤ v ∧ v ≤ 999
             · rw [if_pos y, if_pos (z.mpr y)]
             · rw [if_neg y, if_neg (fun x => y (z.mp x))])
          | (have hz : w = 1 := h1
             rw [hz]
             have z := (@zmOk_at v).2.1
             by_cases y : 1 ≤ v ∧ v ≤ 4
             · rw [if_pos y, if_pos (z.mpr y)]
             · rw [if_neg y, if_neg (fun x => y (z.mp x))])
          | (have hz : w = 2 := h1
             rw [hz]
             have z := (@zmOk_at v).2.2.1
             by_cases y : 1 ≤ v ∧ v ≤ 9
             · rw [if_pos y, if_pos (z.mpr y)]
             · rw [if_neg y, if_neg (fun x => y (z.mp x))])
          | (have hz : w = 3 := h1
             rw [hz]
             have z := (@zmOk_at v).2.2.2.1
             by_cases y : 0 ≤ v ∧ v ≤ 999
             · rw [if_pos y, if_pos (z.mpr y)]
             · rw [if_neg y, if_neg (fun x => y (z.mp x))])
          | (have hz : w = 6 := h1
             rw [hz]
             have z := (@zmOk_at v).2.2.2.2.2.2.1
             by_cases y : 0 ≤ v ∧ v ≤ 9
             · rw [if_pos y, if_pos (z.mpr y)]
             · rw [if_neg y, if_neg (fun x => y (z.mp x))])
          | (have hz : w = 7 := h1
             rw [hz]
             have z := (@zmOk_at v).2.2.2.2.2.2.2.1
             by_cases y : 0 ≤ v ∧ v ≤ 20
             · rw [if_pos y, if_pos (z.mpr y)]
             · rw [if_neg y, if_neg (fun x => y (z.mp x))])
          | (have hz : w = 8 := h1
             rw [hz]
             have z := (@zmOk_at v).2.2.2.2.2.2.2.2
             by_cases y : 0 ≤ v ∧ v ≤ 20
             · rw [if_pos y, if_pos (z.mpr y)]
             · rw [if_neg y, if_neg (fun x => y (z.mp x))])
          | (rw [if_neg]
             rcases (by omega : w = 4 ∨ w = 5 ∨ ¬ (4 ≤ w ∧ w ≤ 5)) with hz | hz | hz
             · rw [hz]; intro x; have := (@zmOk_at v).2.2.2.2.1.mp x; omega
             · rw [hz]; intro x; have := (@zmOk_at v).2.2.2.2.2.1.mp x; omega
             · intro x
               have := x.1
               have := x.2.1
               omega)
          | (rcases (by omega : w = 4 ∨ w = 5) with hz | hz
             · rw [hz, if_pos ((@zmOk_at v).2.2.2.2.1.mpr (by omega))]
             · rw [hz, if_pos ((@zmOk_at v).2.2.2.2.2.1.mpr (by omega))])
      · have h107 := zb1.mp h107
        refine g_iconst (a := 1) (by decide +kernel) ?_
        refine g_goto (off := 4) (tgt := 115) (by decide +kernel) (by decide) ?_
        refine g_retI (by decide +kernel) rfl (Or.inr ⟨rfl, by omega⟩) ⟨by decide, by decide⟩ ?_
        refine ⟨?_, rfl⟩
        first
          | (have hz : w = 0 := h1
             rw [hz]
             have z := (@zmOk_at v).1
             by_cases y : 0 ≤ v ∧ v ≤ 999
             · rw [if_pos y, if_pos (z.mpr y)]
             · rw [if_neg y, if_neg (fun x => y (z.mp x))])
          | (have hz : w = 1 := h1
             rw [hz]
             have z := (@zmOk_at v).2.1
             by_cases y : 1 ≤ v ∧ v ≤ 4
             · rw [if_pos y, if_pos (z.mpr y)]
             · rw [if_neg y, if_neg (fun x => y (z.mp x))])
          | (have hz : w = 2 := h1
             rw [hz]
             have z := (@zmOk_at v).2.2.1
             by_cases y : 1 ≤ v ∧ v ≤ 9
             · rw [if_pos y, if_pos (z.mpr y)]
             · rw [if_neg y, if_neg (fun x => y (z.mp x))])
          | (have hz : w = 3 := h1
             rw [hz]
             have z := (@zmOk_at v).2.2.2.1
             by_cases y : 0 ≤ v ∧ v ≤ 999
             · rw [if_pos y, if_pos (z.mpr y)]
             · rw [if_neg y, if_neg (fun x => y (z.mp x))])
          | (have hz : w = 6 := h1
             rw [hz]
             have z := (@zmOk_at v).2.2.2.2.2.2.1
             by_cases y : 0 ≤ v ∧ v ≤ 9
             · rw [if_pos y, if_pos (z.mpr y)]
             · rw [if_neg y, if_neg (fun x => y (z.mp x))])
          | (have hz : w = 7 := h1
             rw [hz]
             have z := (@zmOk_at v).2.2.2.2.2.2.2.1
             by_cases y : 0 ≤ v ∧ v ≤ 20
             · rw [if_pos y, if_pos (z.mpr y)]
             · rw [if_neg y, if_neg (fun x => y (z.mp x))])
          | (have hz : w = 8 := h1
             rw [hz]
             have z := (@zmOk_at v).2.2.2.2.2.2.2.2
             by_cases y : 0 ≤ v ∧ v ≤ 20
             · rw [if_pos y, if_pos (z.mpr y)]
             · rw [if_neg y, if_neg (fun x => y (z.mp x))])
          | (rw [if_neg]
             rcases (by omega : w = 4 ∨ w = 5 ∨ ¬ (4 ≤ w ∧ w ≤ 5)) with hz | hz | hz
             · rw [hz]; intro x; have := (@zmOk_at v).2.2.2.2.1.mp x; omega
             · rw [hz]; intro x; have := (@zmOk_at v).2.2.2.2.2.1.mp x; omega
             · intro x
               have := x.1
               have := x.2.1
               omega)
          | (rcases (by omega : w = 4 ∨ w = 5) with hz | hz
             · rw [hz, if_pos ((@zmOk_at v).2.2.2.2.1.mpr (by omega))]
             · rw [hz, if_pos ((@zmOk_at v).2.2.2.2.2.1.mpr (by omega))])
theorem c_Md_mark {G : zG} {n : Nat} {σ : zSt} {c w v : Int} {S : zSt} (hn : 220 ≤ n) (hF : zFine S) (hS : zMc σ S) (hk : 0 ≤ σ 189 1 ∧ σ 189 1 ≤ 8) (z1 : zr c) (z2 : zr w) (z3 : zr v) : Gm G y_Md_mark m_Md_mark 6 0 0 [vr G 189, vi c, vi w, vi v] n SH σ (zI n SH (fun a σ' => zAcM σ σ' a (if ¬ zmOk w v then 1 else if ¬ (0 ≤ c ∧ c < S 0 0) then 2 else if S 7 (9 * c.toNat + w.toNat) = v then 4 else if 1999 < zlast (zOpM S c.toNat w.toNat v) then 7 else 0) (S 7 (9 * c.toNat + w.toNat)) S (zOpM S c.toNat w.toNat v))) := by
  refine g_enter (L := [(0, _), (1, _), (2, _), (3, _)]) (by decide) rfl rfl rfl (Nat.le_of_ble_eq_true rfl) (fun X => ?_)
  have e0 := hS.n
  have e8 := hS.p
  have hN := hS.N
  have hz : zN S = (S 0 0).toNat := rfl
  obtain ⟨z1a, z1b⟩ := id z1
  obtain ⟨z2a, z2b⟩ := id z2
  obtain ⟨z3a, z3b⟩ := id z3
  refine g_aload_n (i := 0) (by decide +kernel) rfl ?_
  refine g_iconst (a := 0) (by decide +kernel) ?_
  refine g_puti f_Md_142 (by decide +kernel) (by omega) rfl rfl ?_
  refine g_aload_n (i := 0) (by decide +kernel) rfl ?_
  refine g_iconst (a := 0) (by decide +kernel) ?_
  refine g_puti f_Md_145 (by decide +kernel) (by omega) rfl rfl ?_
  obtain ⟨τ, eτ⟩ : ∃ τ, τ = zs (zs σ 189 3 0) 189 2 0 := ⟨_, rfl⟩
  rw [← eτ]
  have a0 : zAF σ τ := by rw [eτ]; exact ((zAF.rf σ).put (by decide)).put (by decide)
  have s0 : τ 189 2 = 0 := by rw [eτ, zs_eq]
  have c0 : τ 190 = σ 190 := by rw [eτ, zs_other (by decide), zs_other (by decide)]
  have k0 : τ 189 1 = σ 189 1 := by rw [eτ, zs_ne (by decide), zs_ne (by decide)]
  have hT : zMc τ S := hS.moved c0
  have et := hT.n
  have ep := hT.p
  refine g_iload_n (i := 2) (by decide +kernel) rfl ?_
  refine g_iload_n (i := 3) (by decide +kernel) rfl ?_
  refine g_cSI (st := _) (c_Md_canBe z2 z3) k_Md_canBe l_Md_338 (by decide +kernel) rfl rfl (Nat.le_of_ble_eq_true rfl) (by decide) ⟨by decide, by decide⟩ ?_
  rintro a9 σ9 ⟨ea9, hσ9⟩
  obtain rfl := hσ9.symm
  subst ea9
  refine g_if_ne (off := 9) (tgt := 24) (by decide +kernel) (by decide) zbr (fun h15 => ?_) (fun h15 => ?_)
  · have h15 := zb1.mp h15
    refine g_aload_n (i := 0) (by decide +kernel) rfl ?_
    refine g_iload_n (i := 1) (by decide +kernel) rfl ?_
    refine g_cVI (st := _) (c_Md_isClip (k := c) hn (by assumption) (by rw [hT.n]; omega)) k_Md_isClip l_Md_313 (by decide +kernel) (by omega) rfl rfl rfl rfl (Nat.le_of_ble_eq_true rfl) (by decide) ⟨by decide, by decide⟩ ?_
    rintro a9 σ9 ⟨ea9, hσ9⟩
    obtain rfl := hσ9.symm
    rw [hT.n] at ea9
    subst ea9
    refine g_if_ne (off := 9) (tgt := 38) (by decide +kernel) (by decide) zbr (fun h29 => ?_) (fun h29 => ?_)
    · have h29 := zb1.mp h29
      obtain ⟨k, rfl⟩ := Int.eq_ofNat_of_zero_le h29.1
      have ok : zmOk w v := h15
      obtain ⟨q, rfl⟩ := Int.eq_ofNat_of_zero_le ok.1
      have kN : k < zN S := by omega
      have q9 : (q : Int) < 9 := ok.2.1
      have em := hT.mk kN (show q < 9 by omega)
      have mr := hT.mr (show k < 12 by omega) (show q < 9 by omega)
      refine g_aload_n (i := 0) (by decide +kernel) rfl ?_
      refine g_iload_n (i := 1) (by decide +kernel) rfl ?_
      refine g_iload_n (i := 2) (by decide +kernel) rfl ?_
      refine g_cVI (st := _) (c_Md_marked (k := k) (w := q) hn (by omega) (by omega)) k_Md_marked l_Md_192 (by decide +kernel) (by omega) rfl rfl rfl rfl (Nat.le_of_ble_eq_true rfl) (by decide) ⟨by decide, by decide⟩ ?_
      rintro a9 σ9 ⟨ea9, hσ9⟩
      obtain rfl := hσ9.symm
      rw [em] at ea9
      refine g_istore (i := 4) (L' := [(0, _), (1, _), (2, _), (3, _), (4, _)]) (by decide +kernel) rfl rfl ?_
      refine g_iload (i := 4) (by decide +kernel) rfl ?_
      refine g_iload_n (i := 3) (by decide +kernel) rfl ?_
      refine g_icmp_ne (off := 9) (tgt := 58) (by decide +kernel) (by decide) ⟨by omega, by omega⟩ ⟨by omega, by omega⟩ (fun h49 => ?_) (fun h49 => ?_)
      · refine g_aload_n (i := 0) (by decide +kernel) rfl ?_
        refine g_cVV (st := _) (c_Md_tries hn) k_Md_tries l_Md_332 (by decide +kernel) (by omega) rfl rfl rfl rfl (Nat.le_of_ble_eq_true rfl) (by decide) ⟨by decide, by decide⟩ ?_
        rintro υ hυ
        refine g_aload_n (i := 0) (by decide +kernel) rfl ?_
        refine g_getr f_Md_7 (by decide +kernel) (by omega) rfl rfl ?_
        refine g_bipush (a := 38) (by decide +kernel) (by decide) ?_
        refine g_bipush (a := 9) (by decide +kernel) (by decide) ?_
        refine g_iload_n (i := 1) (by decide +kernel) rfl ?_
        refine g_imul (by decide +kernel) ?_
        refine g_iadd (by decide +kernel) ?_
        refine g_iload_n (i := 2) (by decide +kernel) rfl ?_
        refine g_iadd (by decide +kernel) ?_
        refine g_iload_n (i := 3) (by decide +kernel) rfl ?_
        refine g_iast (j := (38 + 9 * k + q)) (by decide +kernel) (by omega) rfl (by push_cast; omega) (by omega) (by decide) ?_
        obtain ⟨ψ, eψ⟩ : ∃ ψ, ψ = zs υ 190 (38 + 9 * k + q) v := ⟨_, rfl⟩
        rw [← eψ]
        have F2 : zFin (zOpM S k q v) := zOpM_fin hF.1 kN (by omega) ⟨ok.2.2.1, ok.2.2.2⟩
        have u0 : ∀ a, a ≠ 190 → ψ a = τ a := fun a ha => by rw [eψ, zs_other ha, hυ, zrow_ne ha]
        have u1 : ψ 190 = zu (zcb (σ 190) 0 1746 194) (0 + zmO 7 + (9 * k + q)) v := by rw [eψ, zs_row, hυ, zrow_eq, c0]; show zu _ (38 + 9 * k + q) v = zu _ (0 + 38 + (9 * k + q)) v; rw [show 38 + 9 * k + q = 0 + 38 + (9 * k + q) by omega]
        have E2 : zEqv (zOpM S k q v) (zMw (ψ 190) 0) := by
          rw [u1]
          exact zEqv_put hS.b (zMw_blk hS.b (c := σ 190) (o := 0) (fun j hj => by unfold zcb; rw [if_neg (by omega)]) hS.1) (by decide) (by decide) (by show 9 * k + q < 108; omega)
        have hP : zMc ψ (zOpM S k q v) := F2.mc E2
        have lr := F2.lr
        have d1 : ∀ j, j < 194 → ψ 190 (1746 + j) = σ 190 j := fun j hj => by rw [u1, zu_ne (by show _ ≠ 0 + 38 + _; omega)]; unfold zcb; rw [if_pos (by omega), show 0 + (1746 + j - 1746) = j by omega]
        have d2 : ∀ j, 194 ≤ j → j < 1746 → ψ 190 j = σ 190 j := fun j h1 h2 => by rw [u1, zu_ne (by show _ ≠ 0 + 38 + _; omega)]; unfold zcb; rw [if_neg (by omega)]
        refine g_aload_n (i := 0) (by decide +kernel) rfl ?_
        refine g_cVI (st := _) (c_Md_takesBack hn hP ⟨by omega, by omega⟩) k_Md_takesBack l_Md_335 (by decide +kernel) (by omega) rfl rfl rfl rfl (Nat.le_of_ble_eq_true rfl) (by decide) ⟨by decide, by decide⟩ ?_
        rintro b9 ω ⟨eb9, ρ, hf, hω⟩
        subst eb9
        have p0 : ∀ a, (a < 190 ∨ 195 < a) → ρ a = τ a := fun a ha => by rw [hf a (by omega), u0 a (by omega)]
        have p1 : ρ 190 = ψ 190 := hf 190 (by omega)
        have A1 : zAF σ ρ := a0.of (fun a ha => p0 a (by omega))
        refine g_if_eq (off := 10) (tgt := 91) (by decide +kernel) (by decide) zbr (fun h81 => ?_) (fun h81 => ?_)
        · have h81 := zb0.mp h81
          refine g_aload_n (i := 0) (by decide +kernel) rfl ?_
          rw [if_neg h81] at hω
          subst hω
          refine g_cVV (st := _) (c_Md_stays hn (by rw [p0 189 (by omega), k0]; exact hk)) k_Md_stays l_Md_304 (by decide +kernel) (by omega) rfl rfl rfl rfl (Nat.le_of_ble_eq_true rfl) (by decide) ⟨by decide, by decide⟩ ?_
          rintro φ hφ
          refine g_iload (i := 4) (by decide +kernel) rfl ?_
          refine g_retI (by decide +kernel) rfl (Or.inl rfl) ⟨by decide, by decide⟩ ?_
          simp only [Int.toNat_natCast]
          refine zAcM.st A1 (by rw [p0 189 (by omega)]; exact s0) (by rw [p0 189 (by omega)]; exact k0) hk hS (fun j hj => by rw [p1]; exact d1 j hj) (fun j h1 h2 => by rw [p1]; exact d2 j h1 h2) F2.b hφ ⟨fun _ _ => rfl, fun _ _ _ => rfl⟩ ?_ (by rw [if_neg (fun y => y ok), if_neg (fun y => y h29), if_neg (by omega), if_neg h81]) (by omega)
          exact zMw_blk F2.b (c := ψ 190) (o := 0) (fun j hj => by rw [hφ.2.2.1 _ (by omega), p1]) E2
        · have h81 := zb1.mp h81
          refine g_aload_n (i := 0) (by decide +kernel) rfl ?_
          refine g_bipush (a := 7) (by decide +kernel) (by decide) ?_
          refine g_cVI (st := _) (c_Md_refuse hn) k_Md_refuse l_Md_295 (by decide +kernel) (by omega) rfl rfl rfl rfl (Nat.le_of_ble_eq_true rfl) (by decide) ⟨by decide, by decide⟩ ?_
          rintro a9 σ9 ⟨ea9, hσ9⟩
          obtain rfl := ea9.symm
          subst hσ9
          refine g_retI (by decide +kernel) rfl (Or.inl rfl) ⟨by decide, by decide⟩ ?_
          rw [if_pos h81] at hω
          subst hω
          refine zAcM.no (A1.of (fun a ha => zrow_ne (by omega))) (by rw [zrow_ne (by decide), p0 189 (by omega)]; exact k0) ?_ (fun j h1 h2 => ?_) (by rw [if_neg (fun y => y ok), if_neg (fun y => y h29)]; simp only [Int.toNat_natCast]; rw [if_neg (by omega), if_pos h81]) (by decide)
          · rw [zrow_eq]
            exact zMw_blk hS.b (c := σ 190) (o := 0) (fun j hj => by unfold zcb; rw [if_pos (by omega), show 1746 + (0 + j - 0) = 1746 + j by omega, d1 j hj, Nat.zero_add]) hS.1
          · rw [zrow_eq]; unfold zcb; rw [if_neg (by omega)]; exact d2 j h1 h2
      · refine g_aload_n (i := 0) (by decide +kernel) rfl ?_
        refine g_iconst (a := 4) (by decide +kernel) ?_
        refine g_cVI (st := _) (c_Md_refuse hn) k_Md_refuse l_Md_295 (by decide +kernel) (by omega) rfl rfl rfl rfl (Nat.le_of_ble_eq_true rfl) (by decide) ⟨by decide, by decide⟩ ?_
        rintro a9 σ9 ⟨ea9, hσ9⟩
        obtain rfl := ea9.symm
        subst hσ9
        refine g_retI (by decide +kernel) rfl (Or.inl rfl) ⟨by decide, by decide⟩ ?_
        exact zAcM.no0 a0 k0 c0 hS (by rw [if_neg (fun y => y ok), if_neg (fun y => y h29)]; simp only [Int.toNat_natCast]; rw [if_pos (by omega)]) (by decide)
    · have h29 := zb0.mp h29
      refine g_aload_n (i := 0) (by decide +kernel) rfl ?_
      refine g_iconst (a := 2) (by decide +kernel) ?_
      refine g_cVI (st := _) (c_Md_refuse hn) k_Md_refuse l_Md_295 (by decide +kernel) (by omega) rfl rfl rfl rfl (Nat.le_of_ble_eq_true rfl) (by decide) ⟨by decide, by decide⟩ ?_
      rintro a9 σ9 ⟨ea9, hσ9⟩
      obtain rfl := ea9.symm
      subst hσ9
      refine g_retI (by decide +kernel) rfl (Or.inl rfl) ⟨by decide, by decide⟩ ?_
      exact zAcM.no0 a0 k0 c0 hS (by rw [if_neg (fun y => y h15), if_pos h29]) (by decide)
  · have h15 := zb0.mp h15
    refine g_aload_n (i := 0) (by decide +kernel) rfl ?_
    refine g_iconst (a := 1) (by decide +kernel) ?_
    refine g_cVI (st := _) (c_Md_refuse hn) k_Md_refuse l_Md_295 (by decide +kernel) (by omega) rfl rfl rfl rfl (Nat.le_of_ble_eq_true rfl) (by decide) ⟨by decide, by decide⟩ ?_
    rintro a9 σ9 ⟨ea9, hσ9⟩
    obtain rfl := ea9.symm
    subst hσ9
    refine g_retI (by decide +kernel) rfl (Or.inl rfl) ⟨by decide, by decide⟩ ?_
    exact zAcM.no0 a0 k0 c0 hS (if_pos h15) (by decide)
