/-! THE PAST (95: next 1, many 2; the Shows at 97 + 10 i) -/
theorem sw_at : ∀ j : Nat, j < 8 → zSw SH (97 + 10 * j) := by
  intro j hj
  rcases (by omega : j = 0 ∨ j = 1 ∨ j = 2 ∨ j = 3 ∨ j = 4 ∨ j = 5 ∨ j = 6 ∨ j = 7) with rfl | rfl | rfl | rfl | rfl | rfl | rfl | rfl
  · exact sh_97
  · exact sh_107
  · exact sh_117
  · exact sh_127
  · exact sh_137
  · exact sh_147
  · exact sh_157
  · exact sh_167
def zKeep (σ σ' : zSt) : Prop := ∃ τ, zCopy σ τ (97 + 10 * (σ 95 1).toNat) 1 ∧ σ' = zs (zs τ 95 1 ((σ 95 1 + 1) % 8)) 95 2 (min (σ 95 2 + 1) 8)
def zBack (σ σ' : zSt) : Prop := ∃ τ, zCopy (zs σ 95 1 ((σ 95 1 + 7) % 8)) τ 1 (97 + 10 * ((σ 95 1 + 7) % 8).toNat) ∧ σ' = zs τ 95 2 (σ 95 2 - 1)
theorem c_Pa_keep {G : zG} {n : Nat} {σ : zSt} (hn : 189 ≤ n) (h1 : 0 ≤ σ 95 1 ∧ σ 95 1 < 8) (h2 : 0 ≤ σ 95 2 ∧ σ 95 2 ≤ 8) : Gm G y_Pa_keep m_Pa_keep 2 0 0 [vr G 95, vr G 1] n SH σ (zV n SH (fun σ' => zKeep σ σ')) := by
  refine g_enter (L := [(0, _), (1, _)]) (by decide) rfl rfl rfl (Nat.le_of_ble_eq_true rfl) (fun X => ?_)
  obtain ⟨j, ej⟩ := Int.eq_ofNat_of_zero_le h1.1
  have hj : j < 8 := by omega
  have ej2 : (σ 95 1).toNat = j := by omega
  refine g_aload_n (i := 0) (by decide +kernel) rfl ?_
  refine g_getr f_Pa_11 (by decide +kernel) (by omega) rfl rfl ?_
  refine g_aload_n (i := 0) (by decide +kernel) rfl ?_
  refine g_geti f_Pa_18 (by decide +kernel) (by omega) rfl rfl ?_
  refine g_aald (CN := "") (j := j) (by decide +kernel) (by omega) rfl (Or.inl rfl) ej (by omega) (by decide) rfl ?_
  refine g_aload_n (i := 1) (by decide +kernel) rfl ?_
  refine g_cVV (st := []) (c_Sh_copyFrom (b := 97 + 10 * j) (f := 1) hn (sw_at j hj) sh_1 (Or.inr (by omega))) k_Sh_copyFrom l_Pa_22 (by decide +kernel) (by omega) (sw_at j hj).a0 rfl rfl rfl (Nat.le_of_ble_eq_true rfl) (by decide) ⟨by decide, by decide⟩ ?_
  rintro τ hc
  have e1 : τ 95 1 = σ 95 1 := by rw [hc.2.2.2.2.2 95 (by omega)]
  have e2 : τ 95 2 = σ 95 2 := by rw [hc.2.2.2.2.2 95 (by omega)]
  refine g_aload_n (i := 0) (by decide +kernel) rfl ?_
  refine g_aload_n (i := 0) (by decide +kernel) rfl ?_
  refine g_geti f_Pa_18 (by decide +kernel) (by omega) rfl rfl ?_
  refine g_iconst (a := 1) (by decide +kernel) ?_
  refine g_iadd (by decide +kernel) ?_
  refine g_bipush (a := 8) (by decide +kernel) (by decide) ?_
  refine g_irem (by decide +kernel) ⟨by rw [e1]; omega, by rw [e1]; omega, by omega, by omega⟩ ?_
  refine g_puti f_Pa_18 (by decide +kernel) (by omega) rfl rfl ?_
  refine g_aload_n (i := 0) (by decide +kernel) rfl ?_
  refine g_aload_n (i := 0) (by decide +kernel) rfl ?_
  refine g_geti f_Pa_26 (by decide +kernel) (by omega) rfl rfl ?_
  refine g_iconst (a := 1) (by decide +kernel) ?_
  refine g_iadd (by decide +kernel) ?_
  refine g_bipush (a := 8) (by decide +kernel) (by decide) ?_
  have e3 : zs τ 95 1 ((τ 95 1 + 1) % 8) 95 2 = σ 95 2 := by rw [zs_row, zu_ne (by decide), e2]
  refine g_min ma_min_Pa_29 (by decide +kernel) ⟨by rw [e3]; omega, by rw [e3]; omega⟩ ⟨by omega, by omega⟩ (Nat.le_of_ble_eq_true rfl) (by decide) ⟨by decide, by decide⟩ ?_
  refine g_puti f_Pa_26 (by decide +kernel) (by omega) rfl rfl ?_
  refine g_retV (by decide +kernel) rfl ⟨by decide, by decide⟩ ?_
  exact ⟨τ, by rw [ej2]; exact hc, by rw [e3, e1]⟩
theorem c_Pa_bringBack {G : zG} {n : Nat} {σ : zSt} (hn : 189 ≤ n) (h1 : 0 ≤ σ 95 1 ∧ σ 95 1 < 8) (h2 : 0 ≤ σ 95 2 ∧ σ 95 2 ≤ 8) : Gm G y_Pa_bringBack m_Pa_bringBack 2 0 0 [vr G 95, vr G 1] n SH σ (zV n SH (fun σ' => zBack σ σ')) := by
  refine g_enter (L := [(0, _), (1, _)]) (by decide) rfl rfl rfl (Nat.le_of_ble_eq_true rfl) (fun X => ?_)
  have e0 : σ 95 1 + 8 - 1 = σ 95 1 + 7 := by omega
  obtain ⟨j, ej⟩ := Int.eq_ofNat_of_zero_le (show 0 ≤ (σ 95 1 + 7) % 8 by omega)
  have hj : j < 8 := by omega
  have ej2 : ((σ 95 1 + 7) % 8).toNat = j := by omega
  refine g_aload_n (i := 0) (by decide +kernel) rfl ?_
  refine g_aload_n (i := 0) (by decide +kernel) rfl ?_
  refine g_geti f_Pa_18 (by decide +kernel) (by omega) rfl rfl ?_
  refine g_bipush (a := 8) (by decide +kernel) (by decide) ?_
  refine g_iadd (by decide +kernel) ?_
  refine g_iconst (a := 1) (by decide +kernel) ?_
  refine g_isub (by decide +kernel) ?_
  refine g_bipush (a := 8) (by decide +kernel) (by decide) ?_
  refine g_irem (by decide +kernel) ⟨by omega, by omega, by omega, by omega⟩ ?_
  refine g_puti f_Pa_18 (by decide +kernel) (by omega) rfl rfl ?_
  refine g_aload_n (i := 1) (by decide +kernel) rfl ?_
  refine g_aload_n (i := 0) (by decide +kernel) rfl ?_
  refine g_getr f_Pa_11 (by decide +kernel) (by omega) rfl rfl ?_
  refine g_aload_n (i := 0) (by decide +kernel) rfl ?_
  refine g_geti f_Pa_18 (by decide +kernel) (by omega) rfl rfl ?_
  refine g_aald (CN := "") (j := j) (by decide +kernel) (by omega) rfl (Or.inl rfl) (by rw [zs_eq, e0]; exact ej) (by omega) (by decide) rfl ?_
  rw [e0]
  refine g_cVV (st := []) (c_Sh_copyFrom (b := 1) (f := 97 + 10 * j) hn sh_1 (sw_at j hj) (Or.inl (by omega))) k_Sh_copyFrom l_Pa_22 (by decide +kernel) (by omega) rfl rfl rfl rfl (Nat.le_of_ble_eq_true rfl) (by decide) ⟨by decide, by decide⟩ ?_
  rintro τ hc
  have e2 : τ 95 2 = σ 95 2 := by rw [hc.2.2.2.2.2 95 (by omega), zs_row, zu_ne (by decide)]
  refine g_aload_n (i := 0) (by decide +kernel) rfl ?_
  refine g_dup (by decide +kernel) rfl ?_
  refine g_geti f_Pa_26 (by decide +kernel) (by omega) rfl rfl ?_
  refine g_iconst (a := 1) (by decide +kernel) ?_
  refine g_isub (by decide +kernel) ?_
  refine g_puti f_Pa_26 (by decide +kernel) (by omega) rfl rfl ?_
  refine g_retV (by decide +kernel) rfl ⟨by decide, by decide⟩ ?_
  exact ⟨τ, by rw [ej2]; exact hc, by rw [e2]⟩
/-! THE REEL (182: time 0, events 1; rows 183 kind, 184 when, 185 clip, 186 local, 187 played ahead, 188 pass ahead) -/
abbrev zE4 : Type := Int × Int × Int × Int
def zL4 (L : List zE4) (i : Nat) : zE4 := (L[i]?).getD (0, 0, 0, 0)
def zRp (σ : zSt) (L : List zE4) : Prop := σ 182 1 = (L.length : Int) ∧ ∀ i, i < 64 → i < L.length → σ 183 i = (zL4 L i).1 ∧ σ 184 i = (zL4 L i).2.1 ∧ σ 185 i = (zL4 L i).2.2.1 ∧ σ 186 i = (zL4 L i).2.2.2
theorem zL4_l {L : List zE4} {x : zE4} {i : Nat} (h : i < L.length) : zL4 (L ++ [x]) i = zL4 L i := by
  unfold zL4
  rw [List.getElem?_append_left h]
theorem zL4_r {L : List zE4} {x : zE4} : zL4 (L ++ [x]) L.length = x := by
  unfold zL4
  rw [List.getElem?_append_right (Nat.le_refl _), Nat.sub_self]
  rfl
theorem zlen1 (L : List zE4) (x : zE4) : (L ++ [x]).length = L.length + 1 := by rw [List.length_append]; rfl
def zKE (σ : zSt) (x y w : Int) : zSt := zs (zs (zs (zs σ 183 (σ 182 1).toNat x) 184 (σ 182 1).toNat (σ 182 0)) 185 (σ 182 1).toNat y) 186 (σ 182 1).toNat w
theorem zKE_1 {σ : zSt} {L : List zE4} {x y w : Int} (h : zRp σ L) (hl : σ 182 1 < 64) : zRp (zs (zKE σ x y w) 182 1 (σ 182 1 + 1)) (L ++ [((x, σ 182 0, y, w) : Int × Int × Int × Int)]) := by
  obtain ⟨h1, h2⟩ := h
  have e : (σ 182 1).toNat = L.length := by omega
  have r0 : ∀ a, a ≠ 182 → a ≠ 183 → a ≠ 184 → a ≠ 185 → a ≠ 186 → zKE σ x y w a = σ a := fun a _ b1 b2 b3 b4 => by unfold zKE; rw [zs_other b4, zs_other b3, zs_other b2, zs_other b1]
  have r3 : zs (zKE σ x y w) 182 1 (σ 182 1 + 1) 183 = zu (σ 183) (σ 182 1).toNat x := by unfold zKE; rw [zs_other (by decide), zs_other (by decide), zs_other (by decide), zs_other (by decide), zs_row]
  have r4 : zs (zKE σ x y w) 182 1 (σ 182 1 + 1) 184 = zu (σ 184) (σ 182 1).toNat (σ 182 0) := by unfold zKE; rw [zs_other (by decide), zs_other (by decide), zs_other (by decide), zs_row, zs_other (by decide)]
  have r5 : zs (zKE σ x y w) 182 1 (σ 182 1 + 1) 185 = zu (σ 185) (σ 182 1).toNat y := by unfold zKE; rw [zs_other (by decide), zs_other (by decide), zs_row, zs_other (by decide), zs_other (by decide)]
  have r6 : zs (zKE σ x y w) 182 1 (σ 182 1 + 1) 186 = zu (σ 186) (σ 182 1).toNat w := by unfold zKE; rw [zs_other (by decide), zs_row, zs_other (by decide), zs_other (by decide), zs_other (by decide)]
  refine ⟨by rw [zs_eq, zlen1, h1]; push_cast; rfl, fun i hi hL => ?_⟩
  rw [zlen1] at hL
  rw [r3, r4, r5, r6, e]
  by_cases z : i = L.length
  · rw [z, zu_eq, zu_eq, zu_eq, zu_eq, zL4_r]; exact ⟨rfl, rfl, rfl, rfl⟩
  · rw [zu_ne z, zu_ne z, zu_ne z, zu_ne z, zL4_l (by omega)]; exact h2 i hi (by omega)
theorem zKE_0 {σ : zSt} {L : List zE4} {x : zE4} (h : zRp σ L) (hl : 64 ≤ σ 182 1) : zRp (zs σ 182 1 (σ 182 1 + 1)) (L ++ [x]) := by
  obtain ⟨h1, h2⟩ := h
  refine ⟨by rw [zs_eq, zlen1, h1]; push_cast; rfl, fun i hi hL => ?_⟩
  rw [zs_other (by decide), zs_other (by decide), zs_other (by decide), zs_other (by decide), zL4_l (by omega)]
  exact h2 i hi (by omega)
/-- the reel alone has changed, and only in its events -/
def zRf (σ σ' : zSt) : Prop := (∀ a, (a < 182 ∨ 187 ≤ a) → σ' a = σ a) ∧ σ' 182 0 = σ 182 0
theorem zRf.rf (σ : zSt) : zRf σ σ := ⟨fun _ _ => rfl, rfl⟩
theorem zRf.tr {σ τ υ : zSt} (h : zRf σ τ) (g : zRf τ υ) : zRf σ υ := ⟨fun a ha => (g.1 a ha).trans (h.1 a ha), g.2.trans h.2⟩
theorem c_Re_rewind {G : zG} {n : Nat} {σ : zSt} (hn : 189 ≤ n) : Gm G y_Re_rewind m_Re_rewind 0 0 0 [vr G 182] n SH σ (zV n SH (fun σ' => σ' = zs (zs σ 182 0 0) 182 1 0)) := by
  refine g_enter (L := [(0, _)]) (by decide) rfl rfl rfl (Nat.le_of_ble_eq_true rfl) (fun X => ?_)
  refine g_aload_n (i := 0) (by decide +kernel) rfl ?_
  refine g_iconst (a := 0) (by decide +kernel) ?_
  refine g_puti f_Re_31 (by decide +kernel) (by omega) rfl rfl ?_
  refine g_aload_n (i := 0) (by decide +kernel) rfl ?_
  refine g_iconst (a := 0) (by decide +kernel) ?_
  refine g_puti f_Re_35 (by decide +kernel) (by omega) rfl rfl ?_
  refine g_retV (by decide +kernel) rfl ⟨by decide, by decide⟩ ?_
  exact rfl
theorem c_Re_keepEvent {G : zG} {n : Nat} {σ : zSt} {x y w : Int} {L : List zE4} (hn : 189 ≤ n) (hL : zRp σ L) (hl : L.length ≤ 5000) : Gm G y_Re_keepEvent m_Re_keepEvent 0 0 0 [vr G 182, vi x, vi y, vi w] n SH σ (zV n SH (fun σ' => zRf σ σ' ∧ zRp σ' (L ++ [((x, σ 182 0, y, w) : Int × Int × Int × Int)]))) := by
  refine g_enter (L := [(0, _), (1, _), (2, _), (3, _)]) (by decide) rfl rfl rfl (Nat.le_of_ble_eq_true rfl) (fun X => ?_)
  have h1 := hL.1
  have ee : ((σ 182 1).toNat : Int) = σ 182 1 := by omega
  refine g_aload_n (i := 0) (by decide +kernel) rfl ?_
  refine g_geti f_Re_35 (by decide +kernel) (by omega) rfl rfl ?_
  refine g_bipush (a := 64) (by decide +kernel) (by decide) ?_
  refine g_icmp_ge (off := 46) (tgt := 52) (by decide +kernel) (by decide) ⟨by omega, by omega⟩ ⟨by omega, by omega⟩ (fun h6 => ?_) (fun h6 => ?_)
  · refine g_aload_n (i := 0) (by decide +kernel) rfl ?_
    refine g_dup (by decide +kernel) rfl ?_
    refine g_geti f_Re_35 (by decide +kernel) (by omega) rfl rfl ?_
    refine g_iconst (a := 1) (by decide +kernel) ?_
    refine g_iadd (by decide +kernel) ?_
    refine g_puti f_Re_35 (by decide +kernel) (by omega) rfl rfl ?_
    refine g_retV (by decide +kernel) rfl ⟨by decide, by decide⟩ ?_
    first
      | (have hz : 64 ≤ σ 182 1 := h6
         exact ⟨⟨fun a ha => zs_other (by omega), by rw [zs_row, zu_ne (by decide)]⟩, zKE_0 hL hz⟩)
      | (have k2 : ∀ a, a ≠ 183 → a ≠ 184 → a ≠ 185 → a ≠ 186 → zKE σ x y w a = σ a := fun a b1 b2 b3 b4 => by unfold zKE; rw [zs_other b4, zs_other b3, zs_other b2, zs_other b1]
         have r : zs (zKE σ x y w) 182 1 (zKE σ x y w 182 1 + 1) = zs (zKE σ x y w) 182 1 (σ 182 1 + 1) := by rw [k2 182 (by decide) (by decide) (by decide) (by decide)]
         refine ⟨⟨fun a ha => ?_, ?_⟩, ?_⟩
         · exact (zs_other (by omega)).trans (k2 a (by omega) (by omega) (by omega) (by omega))
         · show zs (zKE σ x y w) 182 1 _ 182 0 = _
           rw [zs_row, zu_ne (by decide), k2 182 (by decide) (by decide) (by decide) (by decide)]
         · show zRp (zs (zKE σ x y w) 182 1 (zKE σ x y w 182 1 + 1)) _
           rw [r]
           exact zKE_1 hL (by omega))
  · refine g_aload_n (i := 0) (by decide +kernel) rfl ?_
    refine g_getr f_Re_9 (by decide +kernel) (by omega) rfl rfl ?_
    refine g_aload_n (i := 0) (by decide +kernel) rfl ?_
    refine g_geti f_Re_35 (by decide +kernel) (by omega) rfl rfl ?_
    refine g_iload_n (i := 1) (by decide +kernel) rfl ?_
    refine g_iast (j := (σ 182 1).toNat) (by decide +kernel) (by omega) rfl ee.symm (by omega) (by decide) ?_
    refine g_aload_n (i := 0) (by decide +kernel) rfl ?_
    refine g_getr f_Re_15 (by decide +kernel) (by omega) rfl rfl ?_
    refine g_aload_n (i := 0) (by decide +kernel) rfl ?_
    refine g_geti f_Re_35 (by decide +kernel) (by omega) rfl rfl ?_
    refine g_aload_n (i := 0) (by decide +kernel) rfl ?_
    refine g_geti f_Re_31 (by decide +kernel) (by omega) rfl rfl ?_
    refine g_iast (j := (σ 182 1).toNat) (by decide +kernel) (by omega) rfl (by rw [zs_other (by decide)]; exact ee.symm) (by omega) (by decide) ?_
    refine g_aload_n (i := 0) (by decide +kernel) rfl ?_
    refine g_getr f_Re_18 (by decide +kernel) (by omega) rfl rfl ?_
    refine g_aload_n (i := 0) (by decide +kernel) rfl ?_
    refine g_geti f_Re_35 (by decide +kernel) (by omega) rfl rfl ?_
    refine g_iload_n (i := 2) (by decide +kernel) rfl ?_
    refine g_iast (j := (σ 182 1).toNat) (by decide +kernel) (by omega) rfl (by rw [zs_other (by decide), zs_other (by decide)]; exact ee.symm) (by omega) (by decide) ?_
    refine g_aload_n (i := 0) (by decide +kernel) rfl ?_
    refine g_getr f_Re_21 (by decide +kernel) (by omega) rfl rfl ?_
    refine g_aload_n (i := 0) (by decide +kernel) rfl ?_
    refine g_geti f_Re_35 (by decide +kernel) (by omega) rfl rfl ?_
    refine g_iload_n (i := 3) (by decide +kernel) rfl ?_
    refine g_iast (j := (σ 182 1).toNat) (by decide +kernel) (by omega) rfl (by rw [zs_other (by decide), zs_other (by decide), zs_other (by decide)]; exact ee.symm) (by omega) (by decide) ?_
    refine g_aload_n (i := 0) (by decide +kernel) rfl ?_
    refine g_dup (by decide +kernel) rfl ?_
    refine g_geti f_Re_35 (by decide +kernel) (by omega) rfl rfl ?_
    refine g_iconst (a := 1) (by decide +kernel) ?_
    refine g_iadd (by decide +kernel) ?_
    refine g_puti f_Re_35 (by decide +kernel) (by omega) rfl rfl ?_
    refine g_retV (by decide +kernel) rfl ⟨by decide, by decide⟩ ?_
    first
      | (have hz : 64 ≤ σ 182 1 := h6
         exact ⟨⟨fun a ha => zs_other (by omega), by rw [zs_row, zu_ne (by decide)]⟩, zKE_0 hL hz⟩)
      | (have k2 : ∀ a, a ≠ 183 → a ≠ 184 → a ≠ 185 → a ≠ 186 → zKE σ x y w a = σ a := fun a b1 b2 b3 b4 => by unfold zKE; rw [zs_other b4, zs_other b3, zs_other b2, zs_other b1]
         have r : zs (zKE σ x y w) 182 1 (zKE σ x y w 182 1 + 1) = zs (zKE σ x y w) 182 1 (σ 182 1 + 1) := by rw [k2 182 (by decide) (by decide) (by decide) (by decide)]
         refine ⟨⟨fun a ha => ?_, ?_⟩, ?_⟩
         · exact (zs_other (by omega)).trans (k2 a (by omega) (by omega) (by omega) (by omega))
         · show zs (zKE σ x y w) 182 1 _ 182 0 = _
           rw [zs_row, zu_ne (by decide), k2 182 (by decide) (by decide) (by decide) (by decide)]
         · show zRp (zs (zKE σ x y w) 182 1 (zKE σ x y w 182 1 + 1)) _
           rw [r]
           exact zKE_1 hL (by omega))
/-- the event of a clip, if there is one: from its state, local and pass, and what was ahead -/
def zev1 (w : Int) (k : Nat) (st lo pa : Int) (pl : Bool) (pp : Int) : List zE4 := if st = 2 ∧ pl = false then [((0, w, (k : Int), lo) : Int × Int × Int × Int)] else if st ≠ 2 ∧ pl = true then [((1, w, (k : Int), -1) : Int × Int × Int × Int)] else if st = 2 ∧ pa ≠ pp then [((2, w, (k : Int), lo) : Int × Int × Int × Int)] else []
theorem zev1_len (w : Int) (k : Nat) (st lo pa : Int) (pl : Bool) (pp : Int) : (zev1 w k st lo pa pl pp).length ≤ 1 := by
  unfold zev1
  split
  · exact Nat.le_refl 1
  · split
    · exact Nat.le_refl 1
    · split
      · exact Nat.le_refl 1
      · exact Nat.zero_le 1
theorem c_Re_noteEvent {G : zG} {n : Nat} {σ : zSt} {k : Nat} {L : List zE4} (hn : 189 ≤ n) (hk : k < 12) (hL : zRp σ L) (hl : L.length ≤ 5000) (s1 : 0 ≤ σ 35 k ∧ σ 35 k ≤ 4) (s7 : σ 187 k = 0 ∨ σ 187 k = 1) (s3 : zr (σ 37 k)) (s8 : zr (σ 188 k)) : Gm G y_Re_noteEvent m_Re_noteEvent 1 0 0 [vr G 182, vr G 34, vi k] n SH σ (zV n SH (fun σ' => zRf σ σ' ∧ zRp σ' (L ++ zev1 (σ 182 0) k (σ 35 k) (σ 36 k) (σ 37 k) (decide (σ 187 k = 1)) (σ 188 k)))) := by
  refine g_enter (L := [(0, _), (1, _), (2, _)]) (by decide) rfl rfl rfl (Nat.le_of_ble_eq_true rfl) (fun X => ?_)
  refine g_aload_n (i := 1) (by decide +kernel) rfl ?_
  refine g_getr f_Re_55 (by decide +kernel) (by omega) rfl rfl ?_
  refine g_iload_n (i := 2) (by decide +kernel) rfl ?_
  refine g_iald (by decide +kernel) (by omega) rfl rfl (by omega) (by decide) ?_
  refine g_iconst (a := 2) (by decide +kernel) ?_
  refine g_icmp_ne (off := 7) (tgt := 14) (by decide +kernel) (by decide) ⟨by omega, by omega⟩ ⟨by omega, by omega⟩ (fun h7 => ?_) (fun h7 => ?_)
  · refine g_iconst (a := 0) (by decide +kernel) ?_
    refine g_istore_n (i := 3) (L' := [(0, _), (1, _), (2, _), (3, _)]) (by decide +kernel) rfl rfl ?_
    refine g_iload_n (i := 3) (by decide +kernel) rfl ?_
    refine g_if_eq (off := 27) (tgt := 44) (by decide +kernel) (by decide) ⟨by omega, by omega⟩ (fun h17 => ?_) (fun h17 => ?_)
    · refine g_iload_n (i := 3) (by decide +kernel) rfl ?_
      refine g_if_ne (off := 22) (tgt := 67) (by decide +kernel) (by decide) ⟨by omega, by omega⟩ (fun h45 => ?_) (fun h45 => ?_)
      · refine g_iload_n (i := 3) (by decide +kernel) rfl ?_
        refine g_if_eq (off := 30) (tgt := 98) (by decide +kernel) (by decide) ⟨by omega, by omega⟩ (fun h68 => ?_) (fun h68 => ?_)
        · refine g_retV (by decide +kernel) rfl ⟨by decide, by decide⟩ ?_
          first
            | (have hz : zRp σ1 (L ++ [((0, σ 182 0, (k : Int), σ 36 k) : Int × Int × Int × Int)]) := hr
               exact ⟨hf, by unfold zev1; rw [if_pos ⟨by omega, decide_eq_false (by omega)⟩]; exact hz⟩)
            | (have hz : zRp σ1 (L ++ [((1, σ 182 0, (k : Int), -1) : Int × Int × Int × Int)]) := hr
               exact ⟨hf, by unfold zev1; rw [if_neg (fun q => by have := q.1; omega), if_pos ⟨by omega, decide_eq_true (by omega)⟩]; exact hz⟩)
            | (have hz : zRp σ1 (L ++ [((2, σ 182 0, (k : Int), σ 36 k) : Int × Int × Int × Int)]) := hr
               exact ⟨hf, by unfold zev1; rw [if_neg (fun q => by have := of_decide_eq_false q.2; omega), if_neg (fun q => by have := q.1; omega), if_pos ⟨by omega, by omega⟩]; exact hz⟩)
            | (have e0 : zev1 (σ 182 0) k (σ 35 k) (σ 36 k) (σ 37 k) (decide (σ 187 k = 1)) (σ 188 k) = [] := by
                 unfold zev1
                 rw [if_neg (fun q => by have := of_decide_eq_false q.2; omega), if_neg (fun q => by have := of_decide_eq_true q.2; omega), if_neg (fun q => by omega)]
               exact ⟨zRf.rf σ, by rw [e0, List.append_nil]; exact hL⟩)
        · refine g_aload_n (i := 1) (by decide +kernel) rfl ?_
          refine g_getr f_Re_60 (by decide +kernel) (by omega) rfl rfl ?_
          refine g_iload_n (i := 2) (by decide +kernel) rfl ?_
          refine g_iald (by decide +kernel) (by omega) rfl rfl (by omega) (by decide) ?_
          refine g_aload_n (i := 0) (by decide +kernel) rfl ?_
          refine g_getr f_Re_28 (by decide +kernel) (by omega) rfl rfl ?_
          refine g_iload_n (i := 2) (by decide +kernel) rfl ?_
          refine g_iald (by decide +kernel) (by omega) rfl rfl (by omega) (by decide) ?_
          refine g_icmp_eq (off := 15) (tgt := 98) (by decide +kernel) (by decide) s3 s8 (fun h83 => ?_) (fun h83 => ?_)
          · refine g_retV (by decide +kernel) rfl ⟨by decide, by decide⟩ ?_
            first
              | (have hz : zRp σ1 (L ++ [((0, σ 182 0, (k : Int), σ 36 k) : Int × Int × Int × Int)]) := hr
                 exact ⟨hf, by unfold zev1; rw [if_pos ⟨by omega, decide_eq_false (by omega)⟩]; exact hz⟩)
              | (have hz : zRp σ1 (L ++ [((1, σ 182 0, (k : Int), -1) : Int × Int × Int × Int)]) := hr
                 exact ⟨hf, by unfold zev1; rw [if_neg (fun q => by have := q.1; omega), if_pos ⟨by omega, decide_eq_true (by omega)⟩]; exact hz⟩)
              | (have hz : zRp σ1 (L ++ [((2, σ 182 0, (k : Int), σ 36 k) : Int × Int × Int × Int)]) := hr
                 exact ⟨hf, by unfold zev1; rw [if_neg (fun q => by have := of_decide_eq_false q.2; omega), if_neg (fun q => by have := q.1; omega), if_pos ⟨by omega, by omega⟩]; exact hz⟩)
              | (have e0 : zev1 (σ 182 0) k (σ 35 k) (σ 36 k) (σ 37 k) (decide (σ 187 k = 1)) (σ 188 k) = [] := by
                   unfold zev1
                   rw [if_neg (fun q => by have := of_decide_eq_false q.2; omega), if_neg (fun q => by have := of_decide_eq_true q.2; omega), if_neg (fun q => by omega)]
                 exact ⟨zRf.rf σ, by rw [e0, List.append_nil]; exact hL⟩)
          · refine g_aload_n (i := 0) (by decide +kernel) rfl ?_
            refine g_iconst (a := 2) (by decide +kernel) ?_
            refine g_iload_n (i := 2) (by decide +kernel) rfl ?_
            refine g_aload_n (i := 1) (by decide +kernel) rfl ?_
            refine g_getr f_Re_63 (by decide +kernel) (by omega) rfl rfl ?_
            refine g_iload_n (i := 2) (by decide +kernel) rfl ?_
            refine g_iald (by decide +kernel) (by omega) rfl rfl (by omega) (by decide) ?_
            refine g_cVV (st := []) (c_Re_keepEvent (y := (k : Int)) hn hL hl) k_Re_keepEvent l_Re_64 (by decide +kernel) (by omega) rfl rfl rfl rfl (Nat.le_of_ble_eq_true rfl) (by decide) ⟨by decide, by decide⟩ ?_
            rintro σ1 ⟨hf, hr⟩
            refine g_retV (by decide +kernel) rfl ⟨by decide, by decide⟩ ?_
            first
              | (have hz : zRp σ1 (L ++ [((0, σ 182 0, (k : Int), σ 36 k) : Int × Int × Int × Int)]) := hr
                 exact ⟨hf, by unfold zev1; rw [if_pos ⟨by omega, decide_eq_false (by omega)⟩]; exact hz⟩)
              | (have hz : zRp σ1 (L ++ [((1, σ 182 0, (k : Int), -1) : Int × Int × Int × Int)]) := hr
                 exact ⟨hf, by unfold zev1; rw [if_neg (fun q => by have := q.1; omega), if_pos ⟨by omega, decide_eq_true (by omega)⟩]; exact hz⟩)
              | (have hz : zRp σ1 (L ++ [((2, σ 182 0, (k : Int), σ 36 k) : Int × Int × Int × Int)]) := hr
                 exact ⟨hf, by unfold zev1; rw [if_neg (fun q => by have := of_decide_eq_false q.2; omega), if_neg (fun q => by have := q.1; omega), if_pos ⟨by omega, by omega⟩]; exact hz⟩)
              | (have e0 : zev1 (σ 182 0) k (σ 35 k) (σ 36 k) (σ 37 k) (decide (σ 187 k = 1)) (σ 188 k) = [] := by
                   unfold zev1
                   rw [if_neg (fun q => by have := of_decide_eq_false q.2; omega), if_neg (fun q => by have := of_decide_eq_true q.2; omega), if_neg (fun q => by omega)]
                 exact ⟨zRf.rf σ, by rw [e0, List.append_nil]; exact hL⟩)
      · refine g_aload_n (i := 0) (by decide +kernel) rfl ?_
        refine g_getr f_Re_24 (by decide +kernel) (by omega) rfl rfl ?_
        refine g_iload_n (i := 2) (by decide +kernel) rfl ?_
        refine g_zald (by decide +kernel) (by omega) rfl rfl (by omega) (by decide) ?_
        refine g_if_eq (off := 13) (tgt := 67) (by decide +kernel) (by decide) ⟨by omega, by omega⟩ (fun h54 => ?_) (fun h54 => ?_)
        · refine g_iload_n (i := 3) (by decide +kernel) rfl ?_
          refine g_if_eq (off := 30) (tgt := 98) (by decide +kernel) (by decide) ⟨by omega, by omega⟩ (fun h68 => ?_) (fun h68 => ?_)
          · refine g_retV (by decide +kernel) rfl ⟨by decide, by decide⟩ ?_
            first
              | (have hz : zRp σ1 (L ++ [((0, σ 182 0, (k : Int), σ 36 k) : Int × Int × Int × Int)]) := hr
                 exact ⟨hf, by unfold zev1; rw [if_pos ⟨by omega, decide_eq_false (by omega)⟩]; exact hz⟩)
              | (have hz : zRp σ1 (L ++ [((1, σ 182 0, (k : Int), -1) : Int × Int × Int × Int)]) := hr
                 exact ⟨hf, by unfold zev1; rw [if_neg (fun q => by have := q.1; omega), if_pos ⟨by omega, decide_eq_true (by omega)⟩]; exact hz⟩)
              | (have hz : zRp σ1 (L ++ [((2, σ 182 0, (k : Int), σ 36 k) : Int × Int × Int × Int)]) := hr
                 exact ⟨hf, by unfold zev1; rw [if_neg (fun q => by have := of_decide_eq_false q.2; omega), if_neg (fun q => by have := q.1; omega), if_pos ⟨by omega, by omega⟩]; exact hz⟩)
              | (have e0 : zev1 (σ 182 0) k (σ 35 k) (σ 36 k) (σ 37 k) (decide (σ 187 k = 1)) (σ 188 k) = [] := by
                   unfold zev1
                   rw [if_neg (fun q => by have := of_decide_eq_false q.2; omega), if_neg (fun q => by have := of_decide_eq_true q.2; omega), if_neg (fun q => by omega)]
                 exact ⟨zRf.rf σ, by rw [e0, List.append_nil]; exact hL⟩)
          · refine g_aload_n (i := 1) (by decide +kernel) rfl ?_
            refine g_getr f_Re_60 (by decide +kernel) (by omega) rfl rfl ?_
            refine g_iload_n (i := 2) (by decide +kernel) rfl ?_
            refine g_iald (by decide +kernel) (by omega) rfl rfl (by omega) (by decide) ?_
            refine g_aload_n (i := 0) (by decide +kernel) rfl ?_
            refine g_getr f_Re_28 (by decide +kernel) (by omega) rfl rfl ?_
            refine g_iload_n (i := 2) (by decide +kernel) rfl ?_
            refine g_iald (by decide +kernel) (by omega) rfl rfl (by omega) (by decide) ?_
            refine g_icmp_eq (off := 15) (tgt := 98) (by decide +kernel) (by decide) s3 s8 (fun h83 => ?_) (fun h83 => ?_)
            · refine g_retV (by decide +kernel) rfl ⟨by decide, by decide⟩ ?_
              first
                | (have hz : zRp σ1 (L ++ [((0, σ 182 0, (k : Int), σ 36 k) : Int × Int × Int × Int)]) := hr
                   exact ⟨hf, by unfold zev1; rw [if_pos ⟨by omega, decide_eq_false (by omega)⟩]; exact hz⟩)
                | (have hz : zRp σ1 (L ++ [((1, σ 182 0, (k : Int), -1) : Int × Int × Int × Int)]) := hr
                   exact ⟨hf, by unfold zev1; rw [if_neg (fun q => by have := q.1; omega), if_pos ⟨by omega, decide_eq_true (by omega)⟩]; exact hz⟩)
                | (have hz : zRp σ1 (L ++ [((2, σ 182 0, (k : Int), σ 36 k) : Int × Int × Int × Int)]) := hr
                   exact ⟨hf, by unfold zev1; rw [if_neg (fun q => by have := of_decide_eq_false q.2; omega), if_neg (fun q => by have := q.1; omega), if_pos ⟨by omega, by omega⟩]; exact hz⟩)
                | (have e0 : zev1 (σ 182 0) k (σ 35 k) (σ 36 k) (σ 37 k) (decide (σ 187 k = 1)) (σ 188 k) = [] := by
                     unfold zev1
                     rw [if_neg (fun q => by have := of_decide_eq_false q.2; omega), if_neg (fun q => by have := of_decide_eq_true q.2; omega), if_neg (fun q => by omega)]
                   exact ⟨zRf.rf σ, by rw [e0, List.append_nil]; exact hL⟩)
            · refine g_aload_n (i := 0) (by decide +kernel) rfl ?_
              refine g_iconst (a := 2) (by decide +kernel) ?_
              refine g_iload_n (i := 2) (by decide +kernel) rfl ?_
              refine g_aload_n (i := 1) (by decide +kernel) rfl ?_
              refine g_getr f_Re_63 (by decide +kernel) (by omega) rfl rfl ?_
              refine g_iload_n (i := 2) (by decide +kernel) rfl ?_
              refine g_iald (by decide +kernel) (by omega) rfl rfl (by omega) (by decide) ?_
              refine g_cVV (st := []) (c_Re_keepEvent (y := (k : Int)) hn hL hl) k_Re_keepEvent l_Re_64 (by decide +kernel) (by omega) rfl rfl rfl rfl (Nat.le_of_ble_eq_true rfl) (by decide) ⟨by decide, by decide⟩ ?_
              rintro σ1 ⟨hf, hr⟩
              refine g_retV (by decide +kernel) rfl ⟨by decide, by decide⟩ ?_
              first
                | (have hz : zRp σ1 (L ++ [((0, σ 182 0, (k : Int), σ 36 k) : Int × Int × Int × Int)]) := hr
                   exact ⟨hf, by unfold zev1; rw [if_pos ⟨by omega, decide_eq_false (by omega)⟩]; exact hz⟩)
                | (have hz : zRp σ1 (L ++ [((1, σ 182 0, (k : Int), -1) : Int × Int × Int × Int)]) := hr
                   exact ⟨hf, by unfold zev1; rw [if_neg (fun q => by have := q.1; omega), if_pos ⟨by omega, decide_eq_true (by omega)⟩]; exact hz⟩)
                | (have hz : zRp σ1 (L ++ [((2, σ 182 0, (k : Int), σ 36 k) : Int × Int × Int × Int)]) := hr
                   exact ⟨hf, by unfold zev1; rw [if_neg (fun q => by have := of_decide_eq_false q.2; omega), if_neg (fun q => by have := q.1; omega), if_pos ⟨by omega, by omega⟩]; exact hz⟩)
                | (have e0 : zev1 (σ 182 0) k (σ 35 k) (σ 36 k) (σ 37 k) (decide (σ 187 k = 1)) (σ 188 k) = [] := by
                     unfold zev1
                     rw [if_neg (fun q => by have := of_decide_eq_false q.2; omega), if_neg (fun q => by have := of_decide_eq_true q.2; omega), if_neg (fun q => by omega)]
                   exact ⟨zRf.rf σ, by rw [e0, List.append_nil]; exact hL⟩)
        · refine g_aload_n (i := 0) (by decide +kernel) rfl ?_
          refine g_iconst (a := 1) (by decide +kernel) ?_
          refine g_iload_n (i := 2) (by decide +kernel) rfl ?_
          refine g_iconst (a := -1) (by decide +kernel) ?_
          refine g_cVV (st := []) (c_Re_keepEvent (y := (k : Int)) hn hL hl) k_Re_keepEvent l_Re_64 (by decide +kernel) (by omega) rfl rfl rfl rfl (Nat.le_of_ble_eq_true rfl) (by decide) ⟨by decide, by decide⟩ ?_
          rintro σ1 ⟨hf, hr⟩
          refine g_goto (off := 34) (tgt := 98) (by decide +kernel) (by decide) ?_
          refine g_retV (by decide +kernel) rfl ⟨by decide, by decide⟩ ?_
          first
            | (have hz : zRp σ1 (L ++ [((0, σ 182 0, (k : Int), σ 36 k) : Int × Int × Int × Int)]) := hr
               exact ⟨hf, by unfold zev1; rw [if_pos ⟨by omega, decide_eq_false (by omega)⟩]; exact hz⟩)
            | (have hz : zRp σ1 (L ++ [((1, σ 182 0, (k : Int), -1) : Int × Int × Int × Int)]) := hr
               exact ⟨hf, by unfold zev1; rw [if_neg (fun q => by have := q.1; omega), if_pos ⟨by omega, decide_eq_true (by omega)⟩]; exact hz⟩)
            | (have hz : zRp σ1 (L ++ [((2, σ 182 0, (k : Int), σ 36 k) : Int × Int × Int × Int)]) := hr
               exact ⟨hf, by unfold zev1; rw [if_neg (fun q => by have := of_decide_eq_false q.2; omega), if_neg (fun q => by have := q.1; omega), if_pos ⟨by omega, by omega⟩]; exact hz⟩)
            | (have e0 : zev1 (σ 182 0) k (σ 35 k) (σ 36 k) (σ 37 k) (decide (σ 187 k = 1)) (σ 188 k) = [] := by
                 unfold zev1
                 rw [if_neg (fun q => by have := of_decide_eq_false q.2; omega), if_neg (fun q => by have := of_decide_eq_true q.2; omega), if_neg (fun q => by omega)]
               exact ⟨zRf.rf σ, by rw [e0, List.append_nil]; exact hL⟩)
    · refine g_aload_n (i := 0) (by decide +kernel) rfl ?_
      refine g_getr f_Re_24 (by decide +kernel) (by omega) rfl rfl ?_
      refine g_iload_n (i := 2) (by decide +kernel) rfl ?_
      refine g_zald (by decide +kernel) (by omega) rfl rfl (by omega) (by decide) ?_
      refine g_if_ne (off := 18) (tgt := 44) (by decide +kernel) (by decide) ⟨by omega, by omega⟩ (fun h26 => ?_) (fun h26 => ?_)
      · refine g_iload_n (i := 3) (by decide +kernel) rfl ?_
        refine g_if_ne (off := 22) (tgt := 67) (by decide +kernel) (by decide) ⟨by omega, by omega⟩ (fun h45 => ?_) (fun h45 => ?_)
        · refine g_iload_n (i := 3) (by decide +kernel) rfl ?_
          refine g_if_eq (off := 30) (tgt := 98) (by decide +kernel) (by decide) ⟨by omega, by omega⟩ (fun h68 => ?_) (fun h68 => ?_)
          · refine g_retV (by decide +kernel) rfl ⟨by decide, by decide⟩ ?_
            first
              | (have hz : zRp σ1 (L ++ [((0, σ 182 0, (k : Int), σ 36 k) : Int × Int × Int × Int)]) := hr
                 exact ⟨hf, by unfold zev1; rw [if_pos ⟨by omega, decide_eq_false (by omega)⟩]; exact hz⟩)
              | (have hz : zRp σ1 (L ++ [((1, σ 182 0, (k : Int), -1) : Int × Int × Int × Int)]) := hr
                 exact ⟨hf, by unfold zev1; rw [if_neg (fun q => by have := q.1; omega), if_pos ⟨by omega, decide_eq_true (by omega)⟩]; exact hz⟩)
              | (have hz : zRp σ1 (L ++ [((2, σ 182 0, (k : Int), σ 36 k) : Int × Int × Int × Int)]) := hr
                 exact ⟨hf, by unfold zev1; rw [if_neg (fun q => by have := of_decide_eq_false q.2; omega), if_neg (fun q => by have := q.1; omega), if_pos ⟨by omega, by omega⟩]; exact hz⟩)
              | (have e0 : zev1 (σ 182 0) k (σ 35 k) (σ 36 k) (σ 37 k) (decide (σ 187 k = 1)) (σ 188 k) = [] := by
                   unfold zev1
                   rw [if_neg (fun q => by have := of_decide_eq_false q.2; omega), if_neg (fun q => by have := of_decide_eq_true q.2; omega), if_neg (fun q => by omega)]
                 exact ⟨zRf.rf σ, by rw [e0, List.append_nil]; exact hL⟩)
          · refine g_aload_n (i := 1) (by decide +kernel) rfl ?_
            refine g_getr f_Re_60 (by decide +kernel) (by omega) rfl rfl ?_
            refine g_iload_n (i := 2) (by decide +kernel) rfl ?_
            refine g_iald (by decide +kernel) (by omega) rfl rfl (by omega) (by decide) ?_
            refine g_aload_n (i := 0) (by decide +kernel) rfl ?_
            refine g_getr f_Re_28 (by decide +kernel) (by omega) rfl rfl ?_
            refine g_iload_n (i := 2) (by decide +kernel) rfl ?_
            refine g_iald (by decide +kernel) (by omega) rfl rfl (by omega) (by decide) ?_
            refine g_icmp_eq (off := 15) (tgt := 98) (by decide +kernel) (by decide) s3 s8 (fun h83 => ?_) (fun h83 => ?_)
            · refine g_retV (by decide +kernel) rfl ⟨by decide, by decide⟩ ?_
              first
                | (have hz : zRp σ1 (L ++ [((0, σ 182 0, (k : Int), σ 36 k) : Int × Int × Int × Int)]) := hr
                   exact ⟨hf, by unfold zev1; rw [if_pos ⟨by omega, decide_eq_false (by omega)⟩]; exact hz⟩)
                | (have hz : zRp σ1 (L ++ [((1, σ 182 0, (k : Int), -1) : Int × Int × Int × Int)]) := hr
                   exact ⟨hf, by unfold zev1; rw [if_neg (fun q => by have := q.1; omega), if_pos ⟨by omega, decide_eq_true (by omega)⟩]; exact hz⟩)
                | (have hz : zRp σ1 (L ++ [((2, σ 182 0, (k : Int), σ 36 k) : Int × Int × Int × Int)]) := hr
                   exact ⟨hf, by unfold zev1; rw [if_neg (fun q => by have := of_decide_eq_false q.2; omega), if_neg (fun q => by have := q.1; omega), if_pos ⟨by omega, by omega⟩]; exact hz⟩)
                | (have e0 : zev1 (σ 182 0) k (σ 35 k) (σ 36 k) (σ 37 k) (decide (σ 187 k = 1)) (σ 188 k) = [] := by
                     unfold zev1
                     rw [if_neg (fun q => by have := of_decide_eq_false q.2; omega), if_neg (fun q => by have := of_decide_eq_true q.2; omega), if_neg (fun q => by omega)]
                   exact ⟨zRf.rf σ, by rw [e0, List.append_nil]; exact hL⟩)
            · refine g_aload_n (i := 0) (by decide +kernel) rfl ?_
              refine g_iconst (a := 2) (by decide +kernel) ?_
              refine g_iload_n (i := 2) (by decide +kernel) rfl ?_
              refine g_aload_n (i := 1) (by decide +kernel) rfl ?_
              refine g_getr f_Re_63 (by decide +kernel) (by omega) rfl rfl ?_
              refine g_iload_n (i := 2) (by decide +kernel) rfl ?_
              refine g_iald (by decide +kernel) (by omega) rfl rfl (by omega) (by decide) ?_
              refine g_cVV (st := []) (c_Re_keepEvent (y := (k : Int)) hn hL hl) k_Re_keepEvent l_Re_64 (by decide +kernel) (by omega) rfl rfl rfl rfl (Nat.le_of_ble_eq_true rfl) (by decide) ⟨by decide, by decide⟩ ?_
              rintro σ1 ⟨hf, hr⟩
              refine g_retV (by decide +kernel) rfl ⟨by decide, by decide⟩ ?_
              first
                | (have hz : zRp σ1 (L ++ [((0, σ 182 0, (k : Int), σ 36 k) : Int × Int × Int × Int)]) := hr
                   exact ⟨hf, by unfold zev1; rw [if_pos ⟨by omega, decide_eq_false (by omega)⟩]; exact hz⟩)
                | (have hz : zRp σ1 (L ++ [((1, σ 182 0, (k : Int), -1) : Int × Int × Int × Int)]) := hr
                   exact ⟨hf, by unfold zev1; rw [if_neg (fun q => by have := q.1; omega), if_pos ⟨by omega, decide_eq_true (by omega)⟩]; exact hz⟩)
                | (have hz : zRp σ1 (L ++ [((2, σ 182 0, (k : Int), σ 36 k) : Int × Int × Int × Int)]) := hr
                   exact ⟨hf, by unfold zev1; rw [if_neg (fun q => by have := of_decide_eq_false q.2; omega), if_neg (fun q => by have := q.1; omega), if_pos ⟨by omega, by omega⟩]; exact hz⟩)
                | (have e0 : zev1 (σ 182 0) k (σ 35 k) (σ 36 k) (σ 37 k) (decide (σ 187 k = 1)) (σ 188 k) = [] := by
                     unfold zev1
                     rw [if_neg (fun q => by have := of_decide_eq_false q.2; omega), if_neg (fun q => by have := of_decide_eq_true q.2; omega), if_neg (fun q => by omega)]
                   exact ⟨zRf.rf σ, by rw [e0, List.append_nil]; exact hL⟩)
        · refine g_aload_n (i := 0) (by decide +kernel) rfl ?_
          refine g_getr f_Re_24 (by decide +kernel) (by omega) rfl rfl ?_
          refine g_iload_n (i := 2) (by decide +kernel) rfl ?_
          refine g_zald (by decide +kernel) (by omega) rfl rfl (by omega) (by decide) ?_
          refine g_if_eq (off := 13) (tgt := 67) (by decide +kernel) (by decide) ⟨by omega, by omega⟩ (fun h54 => ?_) (fun h54 => ?_)
          · refine g_iload_n (i := 3) (by decide +kernel) rfl ?_
            refine g_if_eq (off := 30) (tgt := 98) (by decide +kernel) (by decide) ⟨by omega, by omega⟩ (fun h68 => ?_) (fun h68 => ?_)
            · refine g_retV (by decide +kernel) rfl ⟨by decide, by decide⟩ ?_
              first
                | (have hz : zRp σ1 (L ++ [((0, σ 182 0, (k : Int), σ 36 k) : Int × Int × Int × Int)]) := hr
                   exact ⟨hf, by unfold zev1; rw [if_pos ⟨by omega, decide_eq_false (by omega)⟩]; exact hz⟩)
                | (have hz : zRp σ1 (L ++ [((1, σ 182 0, (k : Int), -1) : Int × Int × Int × Int)]) := hr
                   exact ⟨hf, by unfold zev1; rw [if_neg (fun q => by have := q.1; omega), if_pos ⟨by omega, decide_eq_true (by omega)⟩]; exact hz⟩)
                | (have hz : zRp σ1 (L ++ [((2, σ 182 0, (k : Int), σ 36 k) : Int × Int × Int × Int)]) := hr
                   exact ⟨hf, by unfold zev1; rw [if_neg (fun q => by have := of_decide_eq_false q.2; omega), if_neg (fun q => by have := q.1; omega), if_pos ⟨by omega, by omega⟩]; exact hz⟩)
                | (have e0 : zev1 (σ 182 0) k (σ 35 k) (σ 36 k) (σ 37 k) (decide (σ 187 k = 1)) (σ 188 k) = [] := by
                     unfold zev1
                     rw [if_neg (fun q => by have := of_decide_eq_false q.2; omega), if_neg (fun q => by have := of_decide_eq_true q.2; omega), if_neg (fun q => by omega)]
                   exact ⟨zRf.rf σ, by rw [e0, List.append_nil]; exact hL⟩)
            · refine g_aload_n (i := 1) (by decide +kernel) rfl ?_
              refine g_getr f_Re_60 (by decide +kernel) (by omega) rfl rfl ?_
              refine g_iload_n (i := 2) (by decide +kernel) rfl ?_
              refine g_iald (by decide +kernel) (by omega) rfl rfl (by omega) (by decide) ?_
              refine g_aload_n (i := 0) (by decide +kernel) rfl ?_
              refine g_getr f_Re_28 (by decide +kernel) (by omega) rfl rfl ?_
              refine g_iload_n (i := 2) (by decide +kernel) rfl ?_
              refine g_iald (by decide +kernel) (by omega) rfl rfl (by omega) (by decide) ?_
              refine g_icmp_eq (off := 15) (tgt := 98) (by decide +kernel) (by decide) s3 s8 (fun h83 => ?_) (fun h83 => ?_)
              · refine g_retV (by decide +kernel) rfl ⟨by decide, by decide⟩ ?_
                first
                  | (have hz : zRp σ1 (L ++ [((0, σ 182 0, (k : Int), σ 36 k) : Int × Int × Int × Int)]) := hr
                     exact ⟨hf, by unfold zev1; rw [if_pos ⟨by omega, decide_eq_false (by omega)⟩]; exact hz⟩)
                  | (have hz : zRp σ1 (L ++ [((1, σ 182 0, (k : Int), -1) : Int × Int × Int × Int)]) := hr
                     exact ⟨hf, by unfold zev1; rw [if_neg (fun q => by have := q.1; omega), if_pos ⟨by omega, decide_eq_true (by omega)⟩]; exact hz⟩)
                  | (have hz : zRp σ1 (L ++ [((2, σ 182 0, (k : Int), σ 36 k) : Int × Int × Int × Int)]) := hr
                     exact ⟨hf, by unfold zev1; rw [if_neg (fun q => by have := of_decide_eq_false q.2; omega), if_neg (fun q => by have := q.1; omega), if_pos ⟨by omega, by omega⟩]; exact hz⟩)
                  | (have e0 : zev1 (σ 182 0) k (σ 35 k) (σ 36 k) (σ 37 k) (decide (σ 187 k = 1)) (σ 188 k) = [] := by
                       unfold zev1
                       rw [if_neg (fun q => by have := of_decide_eq_false q.2; omega), if_neg (fun q => by have := of_decide_eq_true q.2; omega), if_neg (fun q => by omega)]
                     exact ⟨zRf.rf σ, by rw [e0, List.append_nil]; exact hL⟩)
              · refine g_aload_n (i := 0) (by decide +kernel) rfl ?_
                refine g_iconst (a := 2) (by decide +kernel) ?_
                refine g_iload_n (i := 2) (by decide +kernel) rfl ?_
                refine g_aload_n (i := 1) (by decide +kernel) rfl ?_
                refine g_getr f_Re_63 (by decide +kernel) (by omega) rfl rfl ?_
                refine g_iload_n (i := 2) (by decide +kernel) rfl ?_
                refine g_iald (by decide +kernel) (by omega) rfl rfl (by omega) (by decide) ?_
                refine g_cVV (st := []) (c_Re_keepEvent (y := (k : Int)) hn hL hl) k_Re_keepEvent l_Re_64 (by decide +kernel) (by omega) rfl rfl rfl rfl (Nat.le_of_ble_eq_true rfl) (by decide) ⟨by decide, by decide⟩ ?_
                rintro σ1 ⟨hf, hr⟩
                refine g_retV (by decide +kernel) rfl ⟨by decide, by decide⟩ ?_
                first
                  | (have hz : zRp σ1 (L ++ [((0, σ 182 0, (k : Int), σ 36 k) : Int × Int × Int × Int)]) := hr
                     exact ⟨hf, by unfold zev1; rw [if_pos ⟨by omega, decide_eq_false (by omega)⟩]; exact hz⟩)
                  | (have hz : zRp σ1 (L ++ [((1, σ 182 0, (k : Int), -1) : Int × Int × Int × Int)]) := hr
                     exact ⟨hf, by unfold zev1; rw [if_neg (fun q => by have := q.1; omega), if_pos ⟨by omega, decide_eq_true (by omega)⟩]; exact hz⟩)
                  | (have hz : zRp σ1 (L ++ [((2, σ 182 0, (k : Int), σ 36 k) : Int × Int × Int × Int)]) := hr
                     exact ⟨hf, by unfold zev1; rw [if_neg (fun q => by have := of_decide_eq_false q.2; omega), if_neg (fun q => by have := q.1; omega), if_pos ⟨by omega, by omega⟩]; exact hz⟩)
                  | (have e0 : zev1 (σ 182 0) k (σ 35 k) (σ 36 k) (σ 37 k) (decide (σ 187 k = 1)) (σ 188 k) = [] := by
                       unfold zev1
                       rw [if_neg (fun q => by have := of_decide_eq_false q.2; omega), if_neg (fun q => by have := of_decide_eq_true q.2; omega), if_neg (fun q => by omega)]
                     exact ⟨zRf.rf σ, by rw [e0, List.append_nil]; exact hL⟩)
          · refine g_aload_n (i := 0) (by decide +kernel) rfl ?_
            refine g_iconst (a := 1) (by decide +kernel) ?_
            refine g_iload_n (i := 2) (by decide +kernel) rfl ?_
            refine g_iconst (a := -1) (by decide +kernel) ?_
            refine g_cVV (st := []) (c_Re_keepEvent (y := (k : Int)) hn hL hl) k_Re_keepEvent l_Re_64 (by decide +kernel) (by omega) rfl rfl rfl rfl (Nat.le_of_ble_eq_true rfl) (by decide) ⟨by decide, by decide⟩ ?_
            rintro σ1 ⟨hf, hr⟩
            refine g_goto (off := 34) (tgt := 98) (by decide +kernel) (by decide) ?_
            refine g_retV (by decide +kernel) rfl ⟨by decide, by decide⟩ ?_
            first
              | (have hz : zRp σ1 (L ++ [((0, σ 182 0, (k : Int), σ 36 k) : Int × Int × Int × Int)]) := hr
                 exact ⟨hf, by unfold zev1; rw [if_pos ⟨by omega, decide_eq_false (by omega)⟩]; exact hz⟩)
              | (have hz : zRp σ1 (L ++ [((1, σ 182 0, (k : Int), -1) : Int × Int × Int × Int)]) := hr
                 exact ⟨hf, by unfold zev1; rw [if_neg (fun q => by have := q.1; omega), if_pos ⟨by omega, decide_eq_true (by omega)⟩]; exact hz⟩)
              | (have hz : zRp σ1 (L ++ [((2, σ 182 0, (k : Int), σ 36 k) : Int × Int × Int × Int)]) := hr
                 exact ⟨hf, by unfold zev1; rw [if_neg (fun q => by have := of_decide_eq_false q.2; omega), if_neg (fun q => by have := q.1; omega), if_pos ⟨by omega, by omega⟩]; exact hz⟩)
              | (have e0 : zev1 (σ 182 0) k (σ 35 k) (σ 36 k) (σ 37 k) (decide (σ 187 k = 1)) (σ 188 k) = [] := by
                   unfold zev1
                   rw [if_neg (fun q => by have := of_decide_eq_false q.2; omega), if_neg (fun q => by have := of_decide_eq_true q.2; omega), if_neg (fun q => by omega)]
                 exact ⟨zRf.rf σ, by rw [e0, List.append_nil]; exact hL⟩)
      · refine g_aload_n (i := 0) (by decide +kernel) rfl ?_
        refine g_iconst (a := 0) (by decide +kernel) ?_
        refine g_iload_n (i := 2) (by decide +kernel) rfl ?_
        refine g_aload_n (i := 1) (by decide +kernel) rfl ?_
        refine g_getr f_Re_63 (by decide +kernel) (by omega) rfl rfl ?_
        refine g_iload_n (i := 2) (by decide +kernel) rfl ?_
        refine g_iald (by decide +kernel) (by omega) rfl rfl (by omega) (by decide) ?_
        refine g_cVV (st := []) (c_Re_keepEvent (y := (k : Int)) hn hL hl) k_Re_keepEvent l_Re_64 (by decide +kernel) (by omega) rfl rfl rfl rfl (Nat.le_of_ble_eq_true rfl) (by decide) ⟨by decide, by decide⟩ ?_
        rintro σ1 ⟨hf, hr⟩
        refine g_goto (off := 57) (tgt := 98) (by decide +kernel) (by decide) ?_
        refine g_retV (by decide +kernel) rfl ⟨by decide, by decide⟩ ?_
        first
          | (have hz : zRp σ1 (L ++ [((0, σ 182 0, (k : Int), σ 36 k) : Int × Int × Int × Int)]) := hr
             exact ⟨hf, by unfold zev1; rw [if_pos ⟨by omega, decide_eq_false (by omega)⟩]; exact hz⟩)
          | (have hz : zRp σ1 (L ++ [((1, σ 182 0, (k : Int), -1) : Int × Int × Int × Int)]) := hr
             exact ⟨hf, by unfold zev1; rw [if_neg (fun q => by have := q.1; omega), if_pos ⟨by omega, decide_eq_true (by omega)⟩]; exact hz⟩)
          | (have hz : zRp σ1 (L ++ [((2, σ 182 0, (k : Int), σ 36 k) : Int × Int × Int × Int)]) := hr
             exact ⟨hf, by unfold zev1; rw [if_neg (fun q => by have := of_decide_eq_false q.2; omega), if_neg (fun q => by have := q.1; omega), if_pos ⟨by omega, by omega⟩]; exact hz⟩)
          | (have e0 : zev1 (σ 182 0) k (σ 35 k) (σ 36 k) (σ 37 k) (decide (σ 187 k = 1)) (σ 188 k) = [] := by
               unfold zev1
               rw [if_neg (fun q => by have := of_decide_eq_false q.2; omega), if_neg (fun q => by have := of_decide_eq_true q.2; omega), if_neg (fun q => by omega)]
             exact ⟨zRf.rf σ, by rw [e0, List.append_nil]; exact hL⟩)
  · refine g_iconst (a := 1) (by decide +kernel) ?_
    refine g_goto (off := 4) (tgt := 15) (by decide +kernel) (by decide) ?_
    refine g_istore_n (i := 3) (L' := [(0, _), (1, _), (2, _), (3, _)]) (by decide +kernel) rfl rfl ?_
    refine g_iload_n (i := 3) (by decide +kernel) rfl ?_
    refine g_if_eq (off := 27) (tgt := 44) (by decide +kernel) (by decide) ⟨by omega, by omega⟩ (fun h17 => ?_) (fun h17 => ?_)
    · refine g_iload_n (i := 3) (by decide +kernel) rfl ?_
      refine g_if_ne (off := 22) (tgt := 67) (by decide +kernel) (by decide) ⟨by omega, by omega⟩ (fun h45 => ?_) (fun h45 => ?_)
      · refine g_iload_n (i := 3) (by decide +kernel) rfl ?_
        refine g_if_eq (off := 30) (tgt := 98) (by decide +kernel) (by decide) ⟨by omega, by omega⟩ (fun h68 => ?_) (fun h68 => ?_)
        · refine g_retV (by decide +kernel) rfl ⟨by decide, by decide⟩ ?_
          first
            | (have hz : zRp σ1 (L ++ [((0, σ 182 0, (k : Int), σ 36 k) : Int × Int × Int × Int)]) := hr
               exact ⟨hf, by unfold zev1; rw [if_pos ⟨by omega, decide_eq_false (by omega)⟩]; exact hz⟩)
            | (have hz : zRp σ1 (L ++ [((1, σ 182 0, (k : Int), -1) : Int × Int × Int × Int)]) := hr
               exact ⟨hf, by unfold zev1; rw [if_neg (fun q => by have := q.1; omega), if_pos ⟨by omega, decide_eq_true (by omega)⟩]; exact hz⟩)
            | (have hz : zRp σ1 (L ++ [((2, σ 182 0, (k : Int), σ 36 k) : Int × Int × Int × Int)]) := hr
               exact ⟨hf, by unfold zev1; rw [if_neg (fun q => by have := of_decide_eq_false q.2; omega), if_neg (fun q => by have := q.1; omega), if_pos ⟨by omega, by omega⟩]; exact hz⟩)
            | (have e0 : zev1 (σ 182 0) k (σ 35 k) (σ 36 k) (σ 37 k) (decide (σ 187 k = 1)) (σ 188 k) = [] := by
                 unfold zev1
                 rw [if_neg (fun q => by have := of_decide_eq_false q.2; omega), if_neg (fun q => by have := of_decide_eq_true q.2; omega), if_neg (fun q => by omega)]
               exact ⟨zRf.rf σ, by rw [e0, List.append_nil]; exact hL⟩)
        · refine g_aload_n (i := 1) (by decide +kernel) rfl ?_
          refine g_getr f_Re_60 (by decide +kernel) (by omega) rfl rfl ?_
          refine g_iload_n (i := 2) (by decide +kernel) rfl ?_
          refine g_iald (by decide +kernel) (by omega) rfl rfl (by omega) (by decide) ?_
          refine g_aload_n (i := 0) (by decide +kernel) rfl ?_
          refine g_getr f_Re_28 (by decide +kernel) (by omega) rfl rfl ?_
          refine g_iload_n (i := 2) (by decide +kernel) rfl ?_
          refine g_iald (by decide +kernel) (by omega) rfl rfl (by omega) (by decide) ?_
          refine g_icmp_eq (off := 15) (tgt := 98) (by decide +kernel) (by decide) s3 s8 (fun h83 => ?_) (fun h83 => ?_)
          · refine g_retV (by decide +kernel) rfl ⟨by decide, by decide⟩ ?_
            first
              | (have hz : zRp σ1 (L ++ [((0, σ 182 0, (k : Int), σ 36 k) : Int × Int × Int × Int)]) := hr
                 exact ⟨hf, by unfold zev1; rw [if_pos ⟨by omega, decide_eq_false (by omega)⟩]; exact hz⟩)
              | (have hz : zRp σ1 (L ++ [((1, σ 182 0, (k : Int), -1) : Int × Int × Int × Int)]) := hr
                 exact ⟨hf, by unfold zev1; rw [if_neg (fun q => by have := q.1; omega), if_pos ⟨by omega, decide_eq_true (by omega)⟩]; exact hz⟩)
              | (have hz : zRp σ1 (L ++ [((2, σ 182 0, (k : Int), σ 36 k) : Int × Int × Int × Int)]) := hr
                 exact ⟨hf, by unfold zev1; rw [if_neg (fun q => by have := of_decide_eq_false q.2; omega), if_neg (fun q => by have := q.1; omega), if_pos ⟨by omega, by omega⟩]; exact hz⟩)
              | (have e0 : zev1 (σ 182 0) k (σ 35 k) (σ 36 k) (σ 37 k) (decide (σ 187 k = 1)) (σ 188 k) = [] := by
                   unfold zev1
                   rw [if_neg (fun q => by have := of_decide_eq_false q.2; omega), if_neg (fun q => by have := of_decide_eq_true q.2; omega), if_neg (fun q => by omega)]
                 exact ⟨zRf.rf σ, by rw [e0, List.append_nil]; exact hL⟩)
          · refine g_aload_n (i := 0) (by decide +kernel) rfl ?_
            refine g_iconst (a := 2) (by decide +kernel) ?_
            refine g_iload_n (i := 2) (by decide +kernel) rfl ?_
            refine g_aload_n (i := 1) (by decide +kernel) rfl ?_
            refine g_getr f_Re_63 (by decide +kernel) (by omega) rfl rfl ?_
            refine g_iload_n (i := 2) (by decide +kernel) rfl ?_
            refine g_iald (by decide +kernel) (by omega) rfl rfl (by omega) (by decide) ?_
            refine g_cVV (st := []) (c_Re_keepEvent (y := (k : Int)) hn hL hl) k_Re_keepEvent l_Re_64 (by decide +kernel) (by omega) rfl rfl rfl rfl (Nat.le_of_ble_eq_true rfl) (by decide) ⟨by decide, by decide⟩ ?_
            rintro σ1 ⟨hf, hr⟩
            refine g_retV (by decide +kernel) rfl ⟨by decide, by decide⟩ ?_
            first
              | (have hz : zRp σ1 (L ++ [((0, σ 182 0, (k : Int), σ 36 k) : Int × Int × Int × Int)]) := hr
                 exact ⟨hf, by unfold zev1; rw [if_pos ⟨by omega, decide_eq_false (by omega)⟩]; exact hz⟩)
              | (have hz : zRp σ1 (L ++ [((1, σ 182 0, (k : Int), -1) : Int × Int × Int × Int)]) := hr
                 exact ⟨hf, by unfold zev1; rw [if_neg (fun q => by have := q.1; omega), if_pos ⟨by omega, decide_eq_true (by omega)⟩]; exact hz⟩)
              | (have hz : zRp σ1 (L ++ [((2, σ 182 0, (k : Int), σ 36 k) : Int × Int × Int × Int)]) := hr
                 exact ⟨hf, by unfold zev1; rw [if_neg (fun q => by have := of_decide_eq_false q.2; omega), if_neg (fun q => by have := q.1; omega), if_pos ⟨by omega, by omega⟩]; exact hz⟩)
              | (have e0 : zev1 (σ 182 0) k (σ 35 k) (σ 36 k) (σ 37 k) (decide (σ 187 k = 1)) (σ 188 k) = [] := by
                   unfold zev1
                   rw [if_neg (fun q => by have := of_decide_eq_false q.2; omega), if_neg (fun q => by have := of_decide_eq_true q.2; omega), if_neg (fun q => by omega)]
                 exact ⟨zRf.rf σ, by rw [e0, List.append_nil]; exact hL⟩)
      · refine g_aload_n (i := 0) (by decide +kernel) rfl ?_
        refine g_getr f_Re_24 (by decide +kernel) (by omega) rfl rfl ?_
        refine g_iload_n (i := 2) (by decide +kernel) rfl ?_
        refine g_zald (by decide +kernel) (by omega) rfl rfl (by omega) (by decide) ?_
        refine g_if_eq (off := 13) (tgt := 67) (by decide +kernel) (by decide) ⟨by omega, by omega⟩ (fun h54 => ?_) (fun h54 => ?_)
        · refine g_iload_n (i := 3) (by decide +kernel) rfl ?_
          refine g_if_eq (off := 30) (tgt := 98) (by decide +kernel) (by decide) ⟨by omega, by omega⟩ (fun h68 => ?_) (fun h68 => ?_)
          · refine g_retV (by decide +kernel) rfl ⟨by decide, by decide⟩ ?_
            first
              | (have hz : zRp σ1 (L ++ [((0, σ 182 0, (k : Int), σ 36 k) : Int × Int × Int × Int)]) := hr
                 exact ⟨hf, by unfold zev1; rw [if_pos ⟨by omega, decide_eq_false (by omega)⟩]; exact hz⟩)
              | (have hz : zRp σ1 (L ++ [((1, σ 182 0, (k : Int), -1) : Int × Int × Int × Int)]) := hr
                 exact ⟨hf, by unfold zev1; rw [if_neg (fun q => by have := q.1; omega), if_pos ⟨by omega, decide_eq_true (by omega)⟩]; exact hz⟩)
              | (have hz : zRp σ1 (L ++ [((2, σ 182 0, (k : Int), σ 36 k) : Int × Int × Int × Int)]) := hr
                 exact ⟨hf, by unfold zev1; rw [if_neg (fun q => by have := of_decide_eq_false q.2; omega), if_neg (fun q => by have := q.1; omega), if_pos ⟨by omega, by omega⟩]; exact hz⟩)
              | (have e0 : zev1 (σ 182 0) k (σ 35 k) (σ 36 k) (σ 37 k) (decide (σ 187 k = 1)) (σ 188 k) = [] := by
                   unfold zev1
                   rw [if_neg (fun q => by have := of_decide_eq_false q.2; omega), if_neg (fun q => by have := of_decide_eq_true q.2; omega), if_neg (fun q => by omega)]
                 exact ⟨zRf.rf σ, by rw [e0, List.append_nil]; exact hL⟩)
          · refine g_aload_n (i := 1) (by decide +kernel) rfl ?_
            refine g_getr f_Re_60 (by decide +kernel) (by omega) rfl rfl ?_
            refine g_iload_n (i := 2) (by decide +kernel) rfl ?_
            refine g_iald (by decide +kernel) (by omega) rfl rfl (by omega) (by decide) ?_
            refine g_aload_n (i := 0) (by decide +kernel) rfl ?_
            refine g_getr f_Re_28 (by decide +kernel) (by omega) rfl rfl ?_
            refine g_iload_n (i := 2) (by decide +kernel) rfl ?_
            refine g_iald (by decide +kernel) (by omega) rfl rfl (by omega) (by decide) ?_
            refine g_icmp_eq (off := 15) (tgt := 98) (by decide +kernel) (by decide) s3 s8 (fun h83 => ?_) (fun h83 => ?_)
            · refine g_retV (by decide +kernel) rfl ⟨by decide, by decide⟩ ?_
              first
                | (have hz : zRp σ1 (L ++ [((0, σ 182 0, (k : Int), σ 36 k) : Int × Int × Int × Int)]) := hr
                   exact ⟨hf, by unfold zev1; rw [if_pos ⟨by omega, decide_eq_false (by omega)⟩]; exact hz⟩)
                | (have hz : zRp σ1 (L ++ [((1, σ 182 0, (k : Int), -1) : Int × Int × Int × Int)]) := hr
                   exact ⟨hf, by unfold zev1; rw [if_neg (fun q => by have := q.1; omega), if_pos ⟨by omega, decide_eq_true (by omega)⟩]; exact hz⟩)
                | (have hz : zRp σ1 (L ++ [((2, σ 182 0, (k : Int), σ 36 k) : Int × Int × Int × Int)]) := hr
                   exact ⟨hf, by unfold zev1; rw [if_neg (fun q => by have := of_decide_eq_false q.2; omega), if_neg (fun q => by have := q.1; omega), if_pos ⟨by omega, by omega⟩]; exact hz⟩)
                | (have e0 : zev1 (σ 182 0) k (σ 35 k) (σ 36 k) (σ 37 k) (decide (σ 187 k = 1)) (σ 188 k) = [] := by
                     unfold zev1
                     rw [if_neg (fun q => by have := of_decide_eq_false q.2; omega), if_neg (fun q => by have := of_decide_eq_true q.2; omega), if_neg (fun q => by omega)]
                   exact ⟨zRf.rf σ, by rw [e0, List.append_nil]; exact hL⟩)
            · refine g_aload_n (i := 0) (by decide +kernel) rfl ?_
              refine g_iconst (a := 2) (by decide +kernel) ?_
              refine g_iload_n (i := 2) (by decide +kernel) rfl ?_
              refine g_aload_n (i := 1) (by decide +kernel) rfl ?_
              refine g_getr f_Re_63 (by decide +kernel) (by omega) rfl rfl ?_
              refine g_iload_n (i := 2) (by decide +kernel) rfl ?_
              refine g_iald (by decide +kernel) (by omega) rfl rfl (by omega) (by decide) ?_
              refine g_cVV (st := []) (c_Re_keepEvent (y := (k : Int)) hn hL hl) k_Re_keepEvent l_Re_64 (by decide +kernel) (by omega) rfl rfl rfl rfl (Nat.le_of_ble_eq_true rfl) (by decide) ⟨by decide, by decide⟩ ?_
              rintro σ1 ⟨hf, hr⟩
              refine g_retV (by decide +kernel) rfl ⟨by decide, by decide⟩ ?_
              first
                | (have hz : zRp σ1 (L ++ [((0, σ 182 0, (k : Int), σ 36 k) : Int × Int × Int × Int)]) := hr
                   exact ⟨hf, by unfold zev1; rw [if_pos ⟨by omega, decide_eq_false (by omega)⟩]; exact hz⟩)
                | (have hz : zRp σ1 (L ++ [((1, σ 182 0, (k : Int), -1) : Int × Int × Int × Int)]) := hr
                   exact ⟨hf, by unfold zev1; rw [if_neg (fun q => by have := q.1; omega), if_pos ⟨by omega, decide_eq_true (by omega)⟩]; exact hz⟩)
                | (have hz : zRp σ1 (L ++ [((2, σ 182 0, (k : Int), σ 36 k) : Int × Int × Int × Int)]) := hr
                   exact ⟨hf, by unfold zev1; rw [if_neg (fun q => by have := of_decide_eq_false q.2; omega), if_neg (fun q => by have := q.1; omega), if_pos ⟨by omega, by omega⟩]; exact hz⟩)
                | (have e0 : zev1 (σ 182 0) k (σ 35 k) (σ 36 k) (σ 37 k) (decide (σ 187 k = 1)) (σ 188 k) = [] := by
                     unfold zev1
                     rw [if_neg (fun q => by have := of_decide_eq_false q.2; omega), if_neg (fun q => by have := of_decide_eq_true q.2; omega), if_neg (fun q => by omega)]
                   exact ⟨zRf.rf σ, by rw [e0, List.append_nil]; exact hL⟩)
        · refine g_aload_n (i := 0) (by decide +kernel) rfl ?_
          refine g_iconst (a := 1) (by decide +kernel) ?_
          refine g_iload_n (i := 2) (by decide +kernel) rfl ?_
          refine g_iconst (a := -1) (by decide +kernel) ?_
          refine g_cVV (st := []) (c_Re_keepEvent (y := (k : Int)) hn hL hl) k_Re_keepEvent l_Re_64 (by decide +kernel) (by omega) rfl rfl rfl rfl (Nat.le_of_ble_eq_true rfl) (by decide) ⟨by decide, by decide⟩ ?_
          rintro σ1 ⟨hf, hr⟩
          refine g_goto (off := 34) (tgt := 98) (by decide +kernel) (by decide) ?_
          refine g_retV (by decide +kernel) rfl ⟨by decide, by decide⟩ ?_
          first
            | (have hz : zRp σ1 (L ++ [((0, σ 182 0, (k : Int), σ 36 k) : Int × Int × Int × Int)]) := hr
               exact ⟨hf, by unfold zev1; rw [if_pos ⟨by omega, decide_eq_false (by omega)⟩]; exact hz⟩)
            | (have hz : zRp σ1 (L ++ [((1, σ 182 0, (k : Int), -1) : Int × Int × Int × Int)]) := hr
               exact ⟨hf, by unfold zev1; rw [if_neg (fun q => by have := q.1; omega), if_pos ⟨by omega, decide_eq_true (by omega)⟩]; exact hz⟩)
            | (have hz : zRp σ1 (L ++ [((2, σ 182 0, (k : Int), σ 36 k) : Int × Int × Int × Int)]) := hr
               exact ⟨hf, by unfold zev1; rw [if_neg (fun q => by have := of_decide_eq_false q.2; omega), if_neg (fun q => by have := q.1; omega), if_pos ⟨by omega, by omega⟩]; exact hz⟩)
            | (have e0 : zev1 (σ 182 0) k (σ 35 k) (σ 36 k) (σ 37 k) (decide (σ 187 k = 1)) (σ 188 k) = [] := by
                 unfold zev1
                 rw [if_neg (fun q => by have := of_decide_eq_false q.2; omega), if_neg (fun q => by have := of_decide_eq_true q.2; omega), if_neg (fun q => by omega)]
               exact ⟨zRf.rf σ, by rw [e0, List.append_nil]; exact hL⟩)
    · refine g_aload_n (i := 0) (by decide +kernel) rfl ?_
      refine g_getr f_Re_24 (by decide +kernel) (by omega) rfl rfl ?_
      refine g_iload_n (i := 2) (by decide +kernel) rfl ?_
      refine g_zald (by decide +kernel) (by omega) rfl rfl (by omega) (by decide) ?_
      refine g_if_ne (off := 18) (tgt := 44) (by decide +kernel) (by decide) ⟨by omega, by omega⟩ (fun h26 => ?_) (fun h26 => ?_)
      · refine g_iload_n (i := 3) (by decide +kernel) rfl ?_
        refine g_if_ne (off := 22) (tgt := 67) (by decide +kernel) (by decide) ⟨by omega, by omega⟩ (fun h45 => ?_) (fun h45 => ?_)
        · refine g_iload_n (i := 3) (by decide +kernel) rfl ?_
          refine g_if_eq (off := 30) (tgt := 98) (by decide +kernel) (by decide) ⟨by omega, by omega⟩ (fun h68 => ?_) (fun h68 => ?_)
          · refine g_retV (by decide +kernel) rfl ⟨by decide, by decide⟩ ?_
            first
              | (have hz : zRp σ1 (L ++ [((0, σ 182 0, (k : Int), σ 36 k) : Int × Int × Int × Int)]) := hr
                 exact ⟨hf, by unfold zev1; rw [if_pos ⟨by omega, decide_eq_false (by omega)⟩]; exact hz⟩)
              | (have hz : zRp σ1 (L ++ [((1, σ 182 0, (k : Int), -1) : Int × Int × Int × Int)]) := hr
                 exact ⟨hf, by unfold zev1; rw [if_neg (fun q => by have := q.1; omega), if_pos ⟨by omega, decide_eq_true (by omega)⟩]; exact hz⟩)
              | (have hz : zRp σ1 (L ++ [((2, σ 182 0, (k : Int), σ 36 k) : Int × Int × Int × Int)]) := hr
                 exact ⟨hf, by unfold zev1; rw [if_neg (fun q => by have := of_decide_eq_false q.2; omega), if_neg (fun q => by have := q.1; omega), if_pos ⟨by omega, by omega⟩]; exact hz⟩)
              | (have e0 : zev1 (σ 182 0) k (σ 35 k) (σ 36 k) (σ 37 k) (decide (σ 187 k = 1)) (σ 188 k) = [] := by
                   unfold zev1
                   rw [if_neg (fun q => by have := of_decide_eq_false q.2; omega), if_neg (fun q => by have := of_decide_eq_true q.2; omega), if_neg (fun q => by omega)]
                 exact ⟨zRf.rf σ, by rw [e0, List.append_nil]; exact hL⟩)
          · refine g_aload_n (i := 1) (by decide +kernel) rfl ?_
            refine g_getr f_Re_60 (by decide +kernel) (by omega) rfl rfl ?_
            refine g_iload_n (i := 2) (by decide +kernel) rfl ?_
            refine g_iald (by decide +kernel) (by omega) rfl rfl (by omega) (by decide) ?_
            refine g_aload_n (i := 0) (by decide +kernel) rfl ?_
            refine g_getr f_Re_28 (by decide +kernel) (by omega) rfl rfl ?_
            refine g_iload_n (i := 2) (by decide +kernel) rfl ?_
            refine g_iald (by decide +kernel) (by omega) rfl rfl (by omega) (by decide) ?_
            refine g_icmp_eq (off := 15) (tgt := 98) (by decide +kernel) (by decide) s3 s8 (fun h83 => ?_) (fun h83 => ?_)
            · refine g_retV (by decide +kernel) rfl ⟨by decide, by decide⟩ ?_
              first
                | (have hz : zRp σ1 (L ++ [((0, σ 182 0, (k : Int), σ 36 k) : Int × Int × Int × Int)]) := hr
                   exact ⟨hf, by unfold zev1; rw [if_pos ⟨by omega, decide_eq_false (by omega)⟩]; exact hz⟩)
                | (have hz : zRp σ1 (L ++ [((1, σ 182 0, (k : Int), -1) : Int × Int × Int × Int)]) := hr
                   exact ⟨hf, by unfold zev1; rw [if_neg (fun q => by have := q.1; omega), if_pos ⟨by omega, decide_eq_true (by omega)⟩]; exact hz⟩)
                | (have hz : zRp σ1 (L ++ [((2, σ 182 0, (k : Int), σ 36 k) : Int × Int × Int × Int)]) := hr
                   exact ⟨hf, by unfold zev1; rw [if_neg (fun q => by have := of_decide_eq_false q.2; omega), if_neg (fun q => by have := q.1; omega), if_pos ⟨by omega, by omega⟩]; exact hz⟩)
                | (have e0 : zev1 (σ 182 0) k (σ 35 k) (σ 36 k) (σ 37 k) (decide (σ 187 k = 1)) (σ 188 k) = [] := by
                     unfold zev1
                     rw [if_neg (fun q => by have := of_decide_eq_false q.2; omega), if_neg (fun q => by have := of_decide_eq_true q.2; omega), if_neg (fun q => by omega)]
                   exact ⟨zRf.rf σ, by rw [e0, List.append_nil]; exact hL⟩)
            · refine g_aload_n (i := 0) (by decide +kernel) rfl ?_
              refine g_iconst (a := 2) (by decide +kernel) ?_
              refine g_iload_n (i := 2) (by decide +kernel) rfl ?_
              refine g_aload_n (i := 1) (by decide +kernel) rfl ?_
              refine g_getr f_Re_63 (by decide +kernel) (by omega) rfl rfl ?_
              refine g_iload_n (i := 2) (by decide +kernel) rfl ?_
              refine g_iald (by decide +kernel) (by omega) rfl rfl (by omega) (by decide) ?_
              refine g_cVV (st := []) (c_Re_keepEvent (y := (k : Int)) hn hL hl) k_Re_keepEvent l_Re_64 (by decide +kernel) (by omega) rfl rfl rfl rfl (Nat.le_of_ble_eq_true rfl) (by decide) ⟨by decide, by decide⟩ ?_
              rintro σ1 ⟨hf, hr⟩
              refine g_retV (by decide +kernel) rfl ⟨by decide, by decide⟩ ?_
              first
                | (have hz : zRp σ1 (L ++ [((0, σ 182 0, (k : Int), σ 36 k) : Int × Int × Int × Int)]) := hr
                   exact ⟨hf, by unfold zev1; rw [if_pos ⟨by omega, decide_eq_false (by omega)⟩]; exact hz⟩)
                | (have hz : zRp σ1 (L ++ [((1, σ 182 0, (k : Int), -1) : Int × Int × Int × Int)]) := hr
                   exact ⟨hf, by unfold zev1; rw [if_neg (fun q => by have := q.1; omega), if_pos ⟨by omega, decide_eq_true (by omega)⟩]; exact hz⟩)
                | (have hz : zRp σ1 (L ++ [((2, σ 182 0, (k : Int), σ 36 k) : Int × Int × Int × Int)]) := hr
                   exact ⟨hf, by unfold zev1; rw [if_neg (fun q => by have := of_decide_eq_false q.2; omega), if_neg (fun q => by have := q.1; omega), if_pos ⟨by omega, by omega⟩]; exact hz⟩)
                | (have e0 : zev1 (σ 182 0) k (σ 35 k) (σ 36 k) (σ 37 k) (decide (σ 187 k = 1)) (σ 188 k) = [] := by
                     unfold zev1
                     rw [if_neg (fun q => by have := of_decide_eq_false q.2; omega), if_neg (fun q => by have := of_decide_eq_true q.2; omega), if_neg (fun q => by omega)]
                   exact ⟨zRf.rf σ, by rw [e0, List.append_nil]; exact hL⟩)
        · refine g_aload_n (i := 0) (by decide +kernel) rfl ?_
          refine g_getr f_Re_24 (by decide +kernel) (by omega) rfl rfl ?_
          refine g_iload_n (i := 2) (by decide +kernel) rfl ?_
          refine g_zald (by decide +kernel) (by omega) rfl rfl (by omega) (by decide) ?_
          refine g_if_eq (off := 13) (tgt := 67) (by decide +kernel) (by decide) ⟨by omega, by omega⟩ (fun h54 => ?_) (fun h54 => ?_)
          · refine g_iload_n (i := 3) (by decide +kernel) rfl ?_
            refine g_if_eq (off := 30) (tgt := 98) (by decide +kernel) (by decide) ⟨by omega, by omega⟩ (fun h68 => ?_) (fun h68 => ?_)
            · refine g_retV (by decide +kernel) rfl ⟨by decide, by decide⟩ ?_
              first
                | (have hz : zRp σ1 (L ++ [((0, σ 182 0, (k : Int), σ 36 k) : Int × Int × Int × Int)]) := hr
                   exact ⟨hf, by unfold zev1; rw [if_pos ⟨by omega, decide_eq_false (by omega)⟩]; exact hz⟩)
                | (have hz : zRp σ1 (L ++ [((1, σ 182 0, (k : Int), -1) : Int × Int × Int × Int)]) := hr
                   exact ⟨hf, by unfold zev1; rw [if_neg (fun q => by have := q.1; omega), if_pos ⟨by omega, decide_eq_true (by omega)⟩]; exact hz⟩)
                | (have hz : zRp σ1 (L ++ [((2, σ 182 0, (k : Int), σ 36 k) : Int × Int × Int × Int)]) := hr
                   exact ⟨hf, by unfold zev1; rw [if_neg (fun q => by have := of_decide_eq_false q.2; omega), if_neg (fun q => by have := q.1; omega), if_pos ⟨by omega, by omega⟩]; exact hz⟩)
                | (have e0 : zev1 (σ 182 0) k (σ 35 k) (σ 36 k) (σ 37 k) (decide (σ 187 k = 1)) (σ 188 k) = [] := by
                     unfold zev1
                     rw [if_neg (fun q => by have := of_decide_eq_false q.2; omega), if_neg (fun q => by have := of_decide_eq_true q.2; omega), if_neg (fun q => by omega)]
                   exact ⟨zRf.rf σ, by rw [e0, List.append_nil]; exact hL⟩)
            · refine g_aload_n (i := 1) (by decide +kernel) rfl ?_
              refine g_getr f_Re_60 (by decide +kernel) (by omega) rfl rfl ?_
              refine g_iload_n (i := 2) (by decide +kernel) rfl ?_
              refine g_iald (by decide +kernel) (by omega) rfl rfl (by omega) (by decide) ?_
              refine g_aload_n (i := 0) (by decide +kernel) rfl ?_
              refine g_getr f_Re_28 (by decide +kernel) (by omega) rfl rfl ?_
              refine g_iload_n (i := 2) (by decide +kernel) rfl ?_
              refine g_iald (by decide +kernel) (by omega) rfl rfl (by omega) (by decide) ?_
              refine g_icmp_eq (off := 15) (tgt := 98) (by decide +kernel) (by decide) s3 s8 (fun h83 => ?_) (fun h83 => ?_)
              · refine g_retV (by decide +kernel) rfl ⟨by decide, by decide⟩ ?_
                first
                  | (have hz : zRp σ1 (L ++ [((0, σ 182 0, (k : Int), σ 36 k) : Int × Int × Int × Int)]) := hr
                     exact ⟨hf, by unfold zev1; rw [if_pos ⟨by omega, decide_eq_false (by omega)⟩]; exact hz⟩)
                  | (have hz : zRp σ1 (L ++ [((1, σ 182 0, (k : Int), -1) : Int × Int × Int × Int)]) := hr
                     exact ⟨hf, by unfold zev1; rw [if_neg (fun q => by have := q.1; omega), if_pos ⟨by omega, decide_eq_true (by omega)⟩]; exact hz⟩)
                  | (have hz : zRp σ1 (L ++ [((2, σ 182 0, (k : Int), σ 36 k) : Int × Int × Int × Int)]) := hr
                     exact ⟨hf, by unfold zev1; rw [if_neg (fun q => by have := of_decide_eq_false q.2; omega), if_neg (fun q => by have := q.1; omega), if_pos ⟨by omega, by omega⟩]; exact hz⟩)
                  | (have e0 : zev1 (σ 182 0) k (σ 35 k) (σ 36 k) (σ 37 k) (decide (σ 187 k = 1)) (σ 188 k) = [] := by
                       unfold zev1
                       rw [if_neg (fun q => by have := of_decide_eq_false q.2; omega), if_neg (fun q => by have := of_decide_eq_true q.2; omega), if_neg (fun q => by omega)]
                     exact ⟨zRf.rf σ, by rw [e0, List.append_nil]; exact hL⟩)
              · refine g_aload_n (i := 0) (by decide +kernel) rfl ?_
                refine g_iconst (a := 2) (by decide +kernel) ?_
                refine g_iload_n (i := 2) (by decide +kernel) rfl ?_
                refine g_aload_n (i := 1) (by decide +kernel) rfl ?_
                refine g_getr f_Re_63 (by decide +kernel) (by omega) rfl rfl ?_
                refine g_iload_n (i := 2) (by decide +kernel) rfl ?_
                refine g_iald (by decide +kernel) (by omega) rfl rfl (by omega) (by decide) ?_
                refine g_cVV (st := []) (c_Re_keepEvent (y := (k : Int)) hn hL hl) k_Re_keepEvent l_Re_64 (by decide +kernel) (by omega) rfl rfl rfl rfl (Nat.le_of_ble_eq_true rfl) (by decide) ⟨by decide, by decide⟩ ?_
                rintro σ1 ⟨hf, hr⟩
                refine g_retV (by decide +kernel) rfl ⟨by decide, by decide⟩ ?_
                first
                  | (have hz : zRp σ1 (L ++ [((0, σ 182 0, (k : Int), σ 36 k) : Int × Int × Int × Int)]) := hr
                     exact ⟨hf, by unfold zev1; rw [if_pos ⟨by omega, decide_eq_false (by omega)⟩]; exact hz⟩)
                  | (have hz : zRp σ1 (L ++ [((1, σ 182 0, (k : Int), -1) : Int × Int × Int × Int)]) := hr
                     exact ⟨hf, by unfold zev1; rw [if_neg (fun q => by have := q.1; omega), if_pos ⟨by omega, decide_eq_true (by omega)⟩]; exact hz⟩)
                  | (have hz : zRp σ1 (L ++ [((2, σ 182 0, (k : Int), σ 36 k) : Int × Int × Int × Int)]) := hr
                     exact ⟨hf, by unfold zev1; rw [if_neg (fun q => by have := of_decide_eq_false q.2; omega), if_neg (fun q => by have := q.1; omega), if_pos ⟨by omega, by omega⟩]; exact hz⟩)
                  | (have e0 : zev1 (σ 182 0) k (σ 35 k) (σ 36 k) (σ 37 k) (decide (σ 187 k = 1)) (σ 188 k) = [] := by
                       unfold zev1
                       rw [if_neg (fun q => by have := of_decide_eq_false q.2; omega), if_neg (fun q => by have := of_decide_eq_true q.2; omega), if_neg (fun q => by omega)]
                     exact ⟨zRf.rf σ, by rw [e0, List.append_nil]; exact hL⟩)
          · refine g_aload_n (i := 0) (by decide +kernel) rfl ?_
            refine g_iconst (a := 1) (by decide +kernel) ?_
            refine g_iload_n (i := 2) (by decide +kernel) rfl ?_
            refine g_iconst (a := -1) (by decide +kernel) ?_
            refine g_cVV (st := []) (c_Re_keepEvent (y := (k : Int)) hn hL hl) k_Re_keepEvent l_Re_64 (by decide +kernel) (by omega) rfl rfl rfl rfl (Nat.le_of_ble_eq_true rfl) (by decide) ⟨by decide, by decide⟩ ?_
            rintro σ1 ⟨hf, hr⟩
            refine g_goto (off := 34) (tgt := 98) (by decide +kernel) (by decide) ?_
            refine g_retV (by decide +kernel) rfl ⟨by decide, by decide⟩ ?_
            first
              | (have hz : zRp σ1 (L ++ [((0, σ 182 0, (k : Int), σ 36 k) : Int × Int × Int × Int)]) := hr
                 exact ⟨hf, by unfold zev1; rw [if_pos ⟨by omega, decide_eq_false (by omega)⟩]; exact hz⟩)
              | (have hz : zRp σ1 (L ++ [((1, σ 182 0, (k : Int), -1) : Int × Int × Int × Int)]) := hr
                 exact ⟨hf, by unfold zev1; rw [if_neg (fun q => by have := q.1; omega), if_pos ⟨by omega, decide_eq_true (by omega)⟩]; exact hz⟩)
              | (have hz : zRp σ1 (L ++ [((2, σ 182 0, (k : Int), σ 36 k) : Int × Int × Int × Int)]) := hr
                 exact ⟨hf, by unfold zev1; rw [if_neg (fun q => by have := of_decide_eq_false q.2; omega), if_neg (fun q => by have := q.1; omega), if_pos ⟨by omega, by omega⟩]; exact hz⟩)
              | (have e0 : zev1 (σ 182 0) k (σ 35 k) (σ 36 k) (σ 37 k) (decide (σ 187 k = 1)) (σ 188 k) = [] := by
                   unfold zev1
                   rw [if_neg (fun q => by have := of_decide_eq_false q.2; omega), if_neg (fun q => by have := of_decide_eq_true q.2; omega), if_neg (fun q => by omega)]
                 exact ⟨zRf.rf σ, by rw [e0, List.append_nil]; exact hL⟩)
      · refine g_aload_n (i := 0) (by decide +kernel) rfl ?_
        refine g_iconst (a := 0) (by decide +kernel) ?_
        refine g_iload_n (i := 2) (by decide +kernel) rfl ?_
        refine g_aload_n (i := 1) (by decide +kernel) rfl ?_
        refine g_getr f_Re_63 (by decide +kernel) (by omega) rfl rfl ?_
        refine g_iload_n (i := 2) (by decide +kernel) rfl ?_
        refine g_iald (by decide +kernel) (by omega) rfl rfl (by omega) (by decide) ?_
        refine g_cVV (st := []) (c_Re_keepEvent (y := (k : Int)) hn hL hl) k_Re_keepEvent l_Re_64 (by decide +kernel) (by omega) rfl rfl rfl rfl (Nat.le_of_ble_eq_true rfl) (by decide) ⟨by decide, by decide⟩ ?_
        rintro σ1 ⟨hf, hr⟩
        refine g_goto (off := 57) (tgt := 98) (by decide +kernel) (by decide) ?_
        refine g_retV (by decide +kernel) rfl ⟨by decide, by decide⟩ ?_
        first
          | (have hz : zRp σ1 (L ++ [((0, σ 182 0, (k : Int), σ 36 k) : Int × Int × Int × Int)]) := hr
             exact ⟨hf, by unfold zev1; rw [if_pos ⟨by omega, decide_eq_false (by omega)⟩]; exact hz⟩)
          | (have hz : zRp σ1 (L ++ [((1, σ 182 0, (k : Int), -1) : Int × Int × Int × Int)]) := hr
             exact ⟨hf, by unfold zev1; rw [if_neg (fun q => by have := q.1; omega), if_pos ⟨by omega, decide_eq_true (by omega)⟩]; exact hz⟩)
          | (have hz : zRp σ1 (L ++ [((2, σ 182 0, (k : Int), σ 36 k) : Int × Int × Int × Int)]) := hr
             exact ⟨hf, by unfold zev1; rw [if_neg (fun q => by have := of_decide_eq_false q.2; omega), if_neg (fun q => by have := q.1; omega), if_pos ⟨by omega, by omega⟩]; exact hz⟩)
          | (have e0 : zev1 (σ 182 0) k (σ 35 k) (σ 36 k) (σ 37 k) (decide (σ 187 k = 1)) (σ 188 k) = [] := by
               unfold zev1
               rw [if_neg (fun q => by have := of_decide_eq_false q.2; omega), if_neg (fun q => by have := of_decide_eq_true q.2; omega), if_neg (fun q => by omega)]
             exact ⟨zRf.rf σ, by rw [e0, List.append_nil]; exact hL⟩)
theorem w_Re_remember {G : zG} {X : zX} {n : Nat} {σ : zSt} {N : Nat} (hn : 189 ≤ n) (hN : N ≤ 12) (hs : ∀ k, k < 12 → 0 ≤ σ 35 k ∧ σ 35 k ≤ 4) : ∀ (m : Nat) (i : Nat) (x3 : Int) (τ : zSt), x3 = (i : Int) → (∀ a, a ≠ 187 → a ≠ 188 → τ a = σ a) → (∀ k, k < i → τ 187 k = (if σ 35 k = 2 then 1 else 0) ∧ τ 188 k = σ 37 k) → i ≤ N → N < i + m → Go G X m_Re_remember (0, 0, 0, 0, 0) n SH τ 2 [(0, vr G 182), (1, vr G 34), (2, vi (N : Int)), (3, vi x3)] [] (zV n SH (fun σ' => (∀ a, a ≠ 187 → a ≠ 188 → σ' a = σ a) ∧ ∀ k, k < N → σ' 187 k = (if σ 35 k = 2 then 1 else 0) ∧ σ' 188 k = σ 37 k)) := by
  intro m
  induction m with
  | zero => intro i x3 τ e3 h1 h2 hi hm; exact absurd hm (by omega)
  | succ m ih =>
    intro i x3 τ e3 h1 h2 hi hm
    subst e3
    have s35 : τ 35 = σ 35 := h1 35 (by decide) (by decide)
    have s37 : τ 37 = σ 37 := h1 37 (by decide) (by decide)
    refine g_iload_n (i := 3) (by decide +kernel) rfl ?_
    refine g_iload_n (i := 2) (by decide +kernel) rfl ?_
    refine g_icmp_ge (off := 42) (tgt := 46) (by decide +kernel) (by decide) ⟨by omega, by omega⟩ ⟨by omega, by omega⟩ (fun h4 => ?_) (fun h4 => ?_)
    · refine g_retV (by decide +kernel) rfl ⟨by decide, by decide⟩ ?_
      exact ⟨h1, fun k hk => h2 k (by omega)⟩
    · have hs1 := hs i (by omega)
      rw [← s35] at hs1
      refine g_aload_n (i := 0) (by decide +kernel) rfl ?_
      refine g_getr f_Re_24 (by decide +kernel) (by omega) rfl rfl ?_
      refine g_iload_n (i := 3) (by decide +kernel) rfl ?_
      refine g_aload_n (i := 1) (by decide +kernel) rfl ?_
      refine g_getr f_Re_55 (by decide +kernel) (by omega) rfl rfl ?_
      refine g_iload_n (i := 3) (by decide +kernel) rfl ?_
      refine g_iald (j := i) (by decide +kernel) (by omega) rfl rfl (by omega) (by decide) ?_
      refine g_iconst (a := 2) (by decide +kernel) ?_
      refine g_icmp_ne (off := 7) (tgt := 26) (by decide +kernel) (by decide) ⟨by omega, by omega⟩ ⟨by omega, by omega⟩ (fun h19 => ?_) (fun h19 => ?_)
      · have hv : (0 : Int) = (if σ 35 i = 2 then 1 else 0) := by rw [if_neg (by rw [s35] at h19; exact h19)]
        refine g_iconst (a := 0) (by decide +kernel) ?_
        refine g_zast (j := i) (by decide +kernel) (by omega) rfl rfl (by omega) (by decide) (by omega) ?_
        refine g_aload_n (i := 0) (by decide +kernel) rfl ?_
        refine g_getr f_Re_28 (by decide +kernel) (by omega) rfl rfl ?_
        refine g_iload_n (i := 3) (by decide +kernel) rfl ?_
        refine g_aload_n (i := 1) (by decide +kernel) rfl ?_
        refine g_getr f_Re_60 (by decide +kernel) (by omega) rfl rfl ?_
        refine g_iload_n (i := 3) (by decide +kernel) rfl ?_
        refine g_iald (j := i) (by decide +kernel) (by omega) rfl rfl (by omega) (by decide) ?_
        refine g_iast (j := i) (by decide +kernel) (by omega) rfl rfl (by omega) (by decide) ?_
        refine g_iinc (i := 3) (b := 1) (L' := [(0, _), (1, _), (2, _), (3, _)]) (by decide +kernel) rfl rfl rfl ?_
        refine g_goto (off := -41) (tgt := 2) (by decide +kernel) (by decide) ?_
        refine ih (i + 1) _ _ (by push_cast; rfl) (fun a a1 a2 => by rw [zs_other a2, zs_other a1]; exact h1 a a1 a2) (fun k hk => ?_) (by omega) (by omega)
        rw [zs_other (show 187 ≠ 188 by decide), zs_row, zs_row, zs_other (show 188 ≠ 187 by decide), zs_other (show 37 ≠ 187 by decide), s37]
        by_cases z : k = i
        · subst z
          rw [zu_eq, zu_eq]
          exact ⟨hv, rfl⟩
        · rw [zu_ne z, zu_ne z]; exact h2 k (by omega)
      · have hv : (1 : Int) = (if σ 35 i = 2 then 1 else 0) := by rw [if_pos (by rw [s35] at h19; exact h19)]
        refine g_iconst (a := 1) (by decide +kernel) ?_
        refine g_goto (off := 4) (tgt := 27) (by decide +kernel) (by decide) ?_
        refine g_zast (j := i) (by decide +kernel) (by omega) rfl rfl (by omega) (by decide) (by omega) ?_
        refine g_aload_n (i := 0) (by decide +kernel) rfl ?_
        refine g_getr f_Re_28 (by decide +kernel) (by omega) rfl rfl ?_
        refine g_iload_n (i := 3) (by decide +kernel) rfl ?_
        refine g_aload_n (i := 1) (by decide +kernel) rfl ?_
        refine g_getr f_Re_60 (by decide +kernel) (by omega) rfl rfl ?_
        refine g_iload_n (i := 3) (by decide +kernel) rfl ?_
        refine g_iald (j := i) (by decide +kernel) (by omega) rfl rfl (by omega) (by decide) ?_
        refine g_iast (j := i) (by decide +kernel) (by omega) rfl rfl (by omega) (by decide) ?_
        refine g_iinc (i := 3) (b := 1) (L' := [(0, _), (1, _), (2, _), (3, _)]) (by decide +kernel) rfl rfl rfl ?_
        refine g_goto (off := -41) (tgt := 2) (by decide +kernel) (by decide) ?_
        refine ih (i + 1) _ _ (by push_cast; rfl) (fun a a1 a2 => by rw [zs_other a2, zs_other a1]; exact h1 a a1 a2) (fun k hk => ?_) (by omega) (by omega)
        rw [zs_other (show 187 ≠ 188 by decide), zs_row, zs_row, zs_other (show 188 ≠ 187 by decide), zs_other (show 37 ≠ 187 by decide), s37]
        by_cases z : k = i
        · subst z
          rw [zu_eq, zu_eq]
          exact ⟨hv, rfl⟩
        · rw [zu_ne z, zu_ne z]; exact h2 k (by omega)
theorem c_Re_remember {G : zG} {n : Nat} {σ : zSt} {N : Nat} (hn : 189 ≤ n) (hN : N ≤ 12) (hs : ∀ k, k < 12 → 0 ≤ σ 35 k ∧ σ 35 k ≤ 4) : Gm G y_Re_remember m_Re_remember 0 0 0 [vr G 182, vr G 34, vi (N : Int)] n SH σ (zV n SH (fun σ' => (∀ a, a ≠ 187 → a ≠ 188 → σ' a = σ a) ∧ ∀ k, k < N → σ' 187 k = (if σ 35 k = 2 then 1 else 0) ∧ σ' 188 k = σ 37 k)) := by
  refine g_enter (L := [(0, _), (1, _), (2, _)]) (by decide) rfl rfl rfl (Nat.le_of_ble_eq_true rfl) (fun X => ?_)
  refine g_iconst (a := 0) (by decide +kernel) ?_
  refine g_istore_n (i := 3) (L' := [(0, _), (1, _), (2, _), (3, _)]) (by decide +kernel) rfl rfl ?_
  exact w_Re_remember hn hN hs 13 0 _ σ rfl (fun _ _ _ => rfl) (fun k hk => by omega) (by omega) (by omega)
