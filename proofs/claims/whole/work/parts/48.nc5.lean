/-! ONE PIECE ALONE -/
section PC
variable {p : Nat → Int} {ev : Int} {x x' y y' : Nat → Int} {T T' : Nat} {i : Int}
theorem zMa_x (p : Nat → Int) (ev : Int) (x x' : Nat → Int) : ∀ t, (zMa p ev x t).1 = (zMa p ev x' t).1 ∧ (1 ≤ (zMa p ev x t).1 → ∀ j, 2 ≤ j → j ≤ 5 → (zMa p ev x t).2 j = (zMa p ev x' t).2 j)
  | 0 => ⟨rfl, fun h => absurd h (by show ¬ (1 : Int) ≤ 0; decide)⟩
  | t + 1 => by
    obtain ⟨a1, a2⟩ := zMa_x p ev x x' t
    have f := zMa_fl p ev x t
    have g : zgo p ev t (zMa p ev x t).2 = zgo p ev t (zMa p ev x' t).2 := by
      rcases f with ⟨f1, f2⟩ | ⟨f1, -⟩
      · unfold zgo
        rw [decide_eq_false (fun q => q.2.1 f2), decide_eq_false (fun q => q.2.1 f2)]
      · unfold zgo
        rw [a2 f1 2 (by decide) (by decide), a2 f1 3 (by decide) (by decide), a2 f1 4 (by decide) (by decide)]
    rw [zMa_s, zMa_s]
    unfold zMs
    rw [← g]
    by_cases hg : zgo p ev t (zMa p ev x t).2 = true
    · rw [if_pos hg, if_pos hg]
      refine ⟨a1, fun h j j1 j2 => ?_⟩
      have h : 1 ≤ (zMa p ev x t).1 := h
      dsimp only
      have r := a2 h
      rw [r 2 (by decide) (by decide), r 3 (by decide) (by decide)]
      by_cases e3 : j = 3
      · rw [e3, zu_eq, zu_eq]
      · rw [zu_ne e3, zu_ne e3]
        split
        · by_cases e4 : j = 4
          · rw [e4, zu_eq, zu_eq]
          · rw [zu_ne e4, zu_ne e4]; exact r j j1 j2
        · exact r j j1 j2
    · rw [if_neg hg, if_neg hg]
      by_cases hp : p t = -1
      · rw [if_neg (fun q => q hp), if_neg (fun q => q hp)]; exact ⟨a1, a2⟩
      · rw [if_pos hp, if_pos hp]
        refine ⟨by show (zMa p ev x t).1 + 1 = (zMa p ev x' t).1 + 1; rw [a1], fun h j j1 j2 => ?_⟩
        dsimp only
        rcases (by omega : j = 2 ∨ j = 3 ∨ j = 4 ∨ j = 5) with rfl | rfl | rfl | rfl
        · rw [zu_ne (by decide), zu_ne (by decide), zu_ne (by decide), zu_eq, zu_ne (by decide), zu_ne (by decide), zu_ne (by decide), zu_eq]
        · rw [zu_ne (by decide), zu_ne (by decide), zu_eq, zu_ne (by decide), zu_ne (by decide), zu_eq]
        · rw [zu_ne (by decide), zu_eq, zu_ne (by decide), zu_eq]
        · rw [zu_eq, zu_eq]
theorem zMa_mono (p : Nat → Int) (ev : Int) (x : Nat → Int) (t : Nat) : ∀ m, (zMa p ev x t).1 ≤ (zMa p ev x (t + m)).1
  | 0 => Int.le_refl _
  | m + 1 => by
    have a := zMa_mono p ev x t m
    rw [show t + (m + 1) = (t + m) + 1 by omega, zMa_s]
    unfold zMs
    split
    · exact a
    · split
      · show _ ≤ (zMa p ev x (t + m)).1 + 1; omega
      · exact a
/-- behind a stop, as long as none is added, nothing changes -/
theorem zMa_stop (h : zgo p ev T (zMa p ev x T).2 = false) : ∀ m, (zMa p ev x (T + m)).1 = (zMa p ev x T).1 → zMa p ev x (T + m) = zMa p ev x T ∧ zgo p ev (T + m) (zMa p ev x (T + m)).2 = false
  | 0, _ => ⟨rfl, h⟩
  | m + 1, e => by
    have mo := zMa_mono p ev x T m
    have mo2 := zMa_mono p ev x (T + m) 1
    have e' : (zMa p ev x (T + m)).1 = (zMa p ev x T).1 := by
      rw [show T + (m + 1) = T + m + 1 by omega] at e
      omega
    obtain ⟨a1, a2⟩ := zMa_stop h m e'
    rw [show T + (m + 1) = (T + m) + 1 by omega] at e ⊢
    have st : zMa p ev x (T + m + 1) = zMs p ev (T + m) (zMa p ev x (T + m)) := zMa_s _ _ _ _
    have hp : p (T + m) = -1 := by
      by_cases hp : p (T + m) = -1
      · exact hp
      · rw [st] at e
        unfold zMs at e
        rw [if_neg (by rw [a2]; decide), if_pos hp] at e
        have e : (zMa p ev x (T + m)).1 + 1 = (zMa p ev x T).1 := e
        omega
    have e1 : zMa p ev x (T + m + 1) = zMa p ev x T := by
      rw [st]
      unfold zMs
      rw [if_neg (by rw [a2]; decide), if_neg (fun q => q hp), a1]
    refine ⟨e1, ?_⟩
    unfold zgo
    refine decide_eq_false (fun q => q.2.1 ?_)
    unfold zah
    rw [if_neg (by omega)]
    exact hp
def zStp2 (p : Nat → Int) (ev i : Int) (y : Nat → Int) : Prop := ∃ T x, T ≤ 2000 ∧ (i + 1, y) = zMa p ev x T ∧ (T = 2000 ∨ zgo p ev T y = false)
theorem zStp2_uq (hi : 0 ≤ i) (h : zStp2 p ev i y) (h' : zStp2 p ev i y') : ∀ j, 2 ≤ j → j ≤ 5 → y j = y' j := by
  have key : ∀ (T T' : Nat) (x x' y y' : Nat → Int), T ≤ T' → T' ≤ 2000 → (i + 1, y) = zMa p ev x T → (T = 2000 ∨ zgo p ev T y = false) → (i + 1, y') = zMa p ev x' T' → ∀ j, 2 ≤ j → j ≤ 5 → y j = y' j := by
    intro T T' x x' y y' hT hT' e s e' j j1 j2
    have f1 : (zMa p ev x T).1 = i + 1 := by rw [← e]
    have f2 : (zMa p ev x' T').1 = i + 1 := by rw [← e']
    have y1 : y = (zMa p ev x T).2 := by rw [← e]
    have y2 : y' = (zMa p ev x' T').2 := by rw [← e']
    obtain ⟨u1, u2⟩ := zMa_x p ev x x' T'
    rw [y2, ← u2 (by omega) j j1 j2, y1]
    by_cases z : T = T'
    · rw [z]
    · rcases s with s | s
      · omega
      · rw [y1] at s
        have := (zMa_stop s (T' - T) (by rw [show T + (T' - T) = T' by omega]; omega)).1
        rw [show T + (T' - T) = T' by omega] at this
        rw [this]
  obtain ⟨T, x, h1, h2, h3⟩ := h
  obtain ⟨T', x', g1, g2, g3⟩ := h'
  intro j j1 j2
  rcases Nat.le_total T T' with z | z
  · exact key T T' x x' y y' z g1 h2 h3 g2 j j1 j2
  · exact (key T' T x' x y' y z h1 g2 g3 h2 j j1 j2).symm
/-- the i-th piece (or span): 2 first, 3 last, 4 step, 5 local -/
noncomputable def zpc (p : Nat → Int) (ev i : Int) : Nat → Int := zpick (fun y => zStp2 p ev i y) (fun _ => 0)
theorem zpc_eq (hi : 0 ≤ i) (h : zStp2 p ev i y) : ∀ j, 2 ≤ j → j ≤ 5 → y j = zpc p ev i j := zStp2_uq hi h (zpick_is (Q := fun y => zStp2 p ev i y) h)
end PC
theorem c_Nc_piece {G : zG} {n : Nat} {σ : zSt} {c i w : Int} (hn : 189 ≤ n) (ho : zOn σ) (hR : zRs (σ 93)) (z1 : zr c) (z2 : zr i) (z3 : zr w) : Gm G y_Nc_piece m_Nc_piece 7 0 0 [vr G 0, vi c, vi i, vi w] n SH σ (zI n SH (fun a σ' => zRes σ σ' a (if i < 0 ∨ w < 0 ∨ 3 < w then 1 else if ¬ (0 ≤ c ∧ c < σ 1 0) then 2 else if (zMa (zplay (zSv σ 1) c.toNat) 1 (σ 93) 2000).1 ≤ i then 8 else 0) (zpc (zplay (zSv σ 1) c.toNat) 1 i (2 + w).toNat))) := by
  refine g_enter (L := [(0, _), (1, _), (2, _), (3, _)]) (by decide) rfl rfl rfl (Nat.le_of_ble_eq_true rfl) (fun X => ?_)
  have hc := ho.1.1
  obtain ⟨z1a, z1b⟩ := id z1
  obtain ⟨z2a, z2b⟩ := id z2
  obtain ⟨z3a, z3b⟩ := id z3
  refine g_iload_n (i := 2) (by decide +kernel) rfl ?_
  refine g_if_lt (off := 12) (tgt := 13) (by decide +kernel) (by decide) ⟨by omega, by omega⟩ (fun h1 => ?_) (fun h1 => ?_)
  · refine g_aload_n (i := 0) (by decide +kernel) rfl ?_
    refine g_iconst (a := 1) (by decide +kernel) ?_
    refine g_cVI (st := _) (c_Nc_refuse hn) k_Nc_refuse l_Nc_97 (by decide +kernel) (by omega) rfl rfl rfl rfl (Nat.le_of_ble_eq_true rfl) (by decide) ⟨by decide, by decide⟩ ?_
    rintro a9 σ9 ⟨ea9, hσ9⟩
    obtain rfl := ea9.symm
    subst hσ9
    refine g_retI (by decide +kernel) rfl (Or.inl rfl) ⟨by decide, by decide⟩ ?_
    exact zRes.no (zQf.rf ho hR) (if_pos (by omega)) (by decide)
  · refine g_iload_n (i := 3) (by decide +kernel) rfl ?_
    refine g_if_lt (off := 8) (tgt := 13) (by decide +kernel) (by decide) ⟨by omega, by omega⟩ (fun h5 => ?_) (fun h5 => ?_)
    · refine g_aload_n (i := 0) (by decide +kernel) rfl ?_
      refine g_iconst (a := 1) (by decide +kernel) ?_
      refine g_cVI (st := _) (c_Nc_refuse hn) k_Nc_refuse l_Nc_97 (by decide +kernel) (by omega) rfl rfl rfl rfl (Nat.le_of_ble_eq_true rfl) (by decide) ⟨by decide, by decide⟩ ?_
      rintro a9 σ9 ⟨ea9, hσ9⟩
      obtain rfl := ea9.symm
      subst hσ9
      refine g_retI (by decide +kernel) rfl (Or.inl rfl) ⟨by decide, by decide⟩ ?_
      exact zRes.no (zQf.rf ho hR) (if_pos (by omega)) (by decide)
    · refine g_iload_n (i := 3) (by decide +kernel) rfl ?_
      refine g_iconst (a := 3) (by decide +kernel) ?_
      refine g_icmp_le (off := 9) (tgt := 19) (by decide +kernel) (by decide) ⟨by omega, by omega⟩ ⟨by omega, by omega⟩ (fun h10 => ?_) (fun h10 => ?_)
      · refine g_aload_n (i := 0) (by decide +kernel) rfl ?_
        refine g_getr f_Nc_10 (by decide +kernel) (by omega) rfl rfl ?_
        refine g_iload_n (i := 1) (by decide +kernel) rfl ?_
        refine g_cVI (st := _) (c_Sh_has (b := 1) hn sh_1 (by assumption) ⟨hc.1, hc.2.1⟩) k_Sh_has l_Nc_117 (by decide +kernel) (by omega) rfl rfl rfl rfl (Nat.le_of_ble_eq_true rfl) (by decide) ⟨by decide, by decide⟩ ?_
        rintro a σ9 ⟨ea, hσ⟩
        obtain rfl := hσ.symm
        subst ea
        refine g_if_ne (off := 9) (tgt := 36) (by decide +kernel) (by decide) zbr (fun h27 => ?_) (fun h27 => ?_)
        · have h27 := zb1.mp h27
          refine g_aload_n (i := 0) (by decide +kernel) rfl ?_
          refine g_getr f_Nc_43 (by decide +kernel) (by omega) rfl rfl ?_
          refine g_iload_n (i := 1) (by decide +kernel) rfl ?_
          refine g_iload_n (i := 2) (by decide +kernel) rfl ?_
          obtain ⟨k, ek⟩ := Int.eq_ofNat_of_zero_le h27.1
          have kt : c.toNat = k := by omega
          rw [ek]
          refine g_cVI (st := _) (c_Sr_findPiece (k := k) (w := i) hn ho (by omega) hR ⟨by assumption, by omega⟩) k_Sr_findPiece l_Nc_301 (by decide +kernel) (by omega) rfl rfl rfl rfl (Nat.le_of_ble_eq_true rfl) (by decide) ⟨by decide, by decide⟩ ?_
          rintro a τ ⟨hF, hR1, hD⟩
          rw [← ek]
          have hD2 : (a = 1 ∧ zStp2 (zplay (zSv σ 1) c.toNat) 1 i (τ 93) ∧ i < (zMa (zplay (zSv σ 1) c.toNat) 1 (σ 93) 2000).1 ∧ (0 ≤ τ 93 2 ∧ τ 93 2 ≤ τ 93 3 ∧ τ 93 3 ≤ 1999)) ∨ (a = 0 ∧ (zMa (zplay (zSv σ 1) c.toNat) 1 (σ 93) 2000).1 ≤ i) := by
            rw [kt]
            rcases hD with ⟨d1, T, d2, d3, d4⟩ | hD
            · refine Or.inl ⟨d1, ⟨T, σ 93, d2, d3, d4⟩, ?_, ?_⟩
              · have q := zMa_mono (zplay (zSv σ 1) k) 1 (σ 93) T (2000 - T)
                rw [show T + (2000 - T) = 2000 by omega, ← d3] at q
                have q : i + 1 ≤ _ := q
                omega
              · have q := zMa_fl (zplay (zSv σ 1) k) 1 (σ 93) T
                rw [← d3] at q
                rcases q with ⟨q, -⟩ | ⟨-, q1, q2, q3⟩
                · have q : i + 1 = 0 := q
                  omega
                · have q3 : τ 93 3 < (T : Int) := q3
                  exact ⟨q1, q2, by omega⟩
            · exact Or.inr hD
          have ra : a = 0 ∨ a = 1 := by omega
          refine g_if_ne (off := 10) (tgt := 55) (by decide +kernel) (by decide) ⟨by omega, by omega⟩ (fun h45 => ?_) (fun h45 => ?_)
          · have hD2 := hD2.resolve_right (fun q => h45 q.1)
            obtain ⟨-, hD2⟩ := hD2
            refine g_iload_n (i := 3) (by decide +kernel) rfl ?_
            rcases (by omega : w = 0 ∨ w = 1 ∨ w = 2 ∨ (w < 0 ∨ 2 < w)) with h56 | h56 | h56 | h56
            · refine g_tableIn (dflt := 64) (lo := 0) (hi := 2) (offs := #[28, 40, 52]) (len := 28) (off := 28) (tgt := 84) (by decide +kernel) ⟨by omega, by omega⟩ (by omega) (by omega) (by rw [h56]; rfl) (by decide) ?_
              refine g_aload_n (i := 0) (by decide +kernel) rfl ?_
              refine g_aload_n (i := 0) (by decide +kernel) rfl ?_
              refine g_getr f_Nc_43 (by decide +kernel) (by omega) rfl rfl ?_
              refine g_geti f_Nc_304 (by decide +kernel) (by omega) rfl rfl ?_
              refine g_cVI (st := _) (c_Nc_give hn) k_Nc_give l_Nc_208 (by decide +kernel) (by omega) rfl rfl rfl rfl (Nat.le_of_ble_eq_true rfl) (by decide) ⟨by decide, by decide⟩ ?_
              rintro a9 σ9 ⟨ea9, hσ9⟩
              obtain rfl := ea9.symm
              subst hσ9
              refine g_retI (by decide +kernel) rfl (Or.inl rfl) ⟨by decide, by decide⟩ ?_
              exact zRes.ok (zQf.fr hF hR1) (by rw [if_neg (by omega), if_neg (by omega), if_neg (by omega)]) (by rw [show (2 + w).toNat = 2 by omega]; exact (zpc_eq (by omega) hD2.1 2 (by decide) (by decide)).symm)
            · refine g_tableIn (dflt := 64) (lo := 0) (hi := 2) (offs := #[28, 40, 52]) (len := 28) (off := 40) (tgt := 96) (by decide +kernel) ⟨by omega, by omega⟩ (by omega) (by omega) (by rw [h56]; rfl) (by decide) ?_
              refine g_aload_n (i := 0) (by decide +kernel) rfl ?_
              refine g_aload_n (i := 0) (by decide +kernel) rfl ?_
              refine g_getr f_Nc_43 (by decide +kernel) (by omega) rfl rfl ?_
              refine g_geti f_Nc_307 (by decide +kernel) (by omega) rfl rfl ?_
              refine g_cVI (st := _) (c_Nc_give hn) k_Nc_give l_Nc_208 (by decide +kernel) (by omega) rfl rfl rfl rfl (Nat.le_of_ble_eq_true rfl) (by decide) ⟨by decide, by decide⟩ ?_
              rintro a9 σ9 ⟨ea9, hσ9⟩
              obtain rfl := ea9.symm
              subst hσ9
              refine g_retI (by decide +kernel) rfl (Or.inl rfl) ⟨by decide, by decide⟩ ?_
              exact zRes.ok (zQf.fr hF hR1) (by rw [if_neg (by omega), if_neg (by omega), if_neg (by omega)]) (by rw [show (2 + w).toNat = 3 by omega]; exact (zpc_eq (by omega) hD2.1 3 (by decide) (by decide)).symm)
            · refine g_tableIn (dflt := 64) (lo := 0) (hi := 2) (offs := #[28, 40, 52]) (len := 28) (off := 52) (tgt := 108) (by decide +kernel) ⟨by omega, by omega⟩ (by omega) (by omega) (by rw [h56]; rfl) (by decide) ?_
              refine g_aload_n (i := 0) (by decide +kernel) rfl ?_
              refine g_aload_n (i := 0) (by decide +kernel) rfl ?_
              refine g_getr f_Nc_43 (by decide +kernel) (by omega) rfl rfl ?_
              refine g_geti f_Nc_310 (by decide +kernel) (by omega) rfl rfl ?_
              refine g_cVI (st := _) (c_Nc_give hn) k_Nc_give l_Nc_208 (by decide +kernel) (by omega) rfl rfl rfl rfl (Nat.le_of_ble_eq_true rfl) (by decide) ⟨by decide, by decide⟩ ?_
              rintro a9 σ9 ⟨ea9, hσ9⟩
              obtain rfl := ea9.symm
              subst hσ9
              refine g_retI (by decide +kernel) rfl (Or.inl rfl) ⟨by decide, by decide⟩ ?_
              exact zRes.ok (zQf.fr hF hR1) (by rw [if_neg (by omega), if_neg (by omega), if_neg (by omega)]) (by rw [show (2 + w).toNat = 4 by omega]; exact (zpc_eq (by omega) hD2.1 4 (by decide) (by decide)).symm)
            · refine g_tableOut (dflt := 64) (lo := 0) (hi := 2) (offs := #[28, 40, 52]) (len := 28) (tgt := 120) (by decide +kernel) ⟨by omega, by omega⟩ h56 (by decide) ?_
              refine g_aload_n (i := 0) (by decide +kernel) rfl ?_
              refine g_aload_n (i := 0) (by decide +kernel) rfl ?_
              refine g_getr f_Nc_43 (by decide +kernel) (by omega) rfl rfl ?_
              refine g_geti f_Nc_313 (by decide +kernel) (by omega) rfl rfl ?_
              refine g_cVI (st := _) (c_Nc_give hn) k_Nc_give l_Nc_208 (by decide +kernel) (by omega) rfl rfl rfl rfl (Nat.le_of_ble_eq_true rfl) (by decide) ⟨by decide, by decide⟩ ?_
              rintro a9 σ9 ⟨ea9, hσ9⟩
              obtain rfl := ea9.symm
              subst hσ9
              refine g_retI (by decide +kernel) rfl (Or.inl rfl) ⟨by decide, by decide⟩ ?_
              exact zRes.ok (zQf.fr hF hR1) (by rw [if_neg (by omega), if_neg (by omega), if_neg (by omega)]) (by rw [show (2 + w).toNat = 5 by omega]; exact (zpc_eq (by omega) hD2.1 5 (by decide) (by decide)).symm)
          · have hD3 : (zMa (zplay (zSv σ 1) c.toNat) 1 (σ 93) 2000).1 ≤ i := by omega
            refine g_aload_n (i := 0) (by decide +kernel) rfl ?_
            refine g_bipush (a := 8) (by decide +kernel) (by decide) ?_
            refine g_cVI (st := _) (c_Nc_refuse hn) k_Nc_refuse l_Nc_97 (by decide +kernel) (by omega) rfl rfl rfl rfl (Nat.le_of_ble_eq_true rfl) (by decide) ⟨by decide, by decide⟩ ?_
            rintro a9 σ9 ⟨ea9, hσ9⟩
            obtain rfl := ea9.symm
            subst hσ9
            refine g_retI (by decide +kernel) rfl (Or.inl rfl) ⟨by decide, by decide⟩ ?_
            exact zRes.no (zQf.fr hF hR1) (by rw [if_neg (by omega), if_neg (by omega), if_pos hD3]) (by decide)
        · have h27 := zb0.mp h27
          refine g_aload_n (i := 0) (by decide +kernel) rfl ?_
          refine g_iconst (a := 2) (by decide +kernel) ?_
          refine g_cVI (st := _) (c_Nc_refuse hn) k_Nc_refuse l_Nc_97 (by decide +kernel) (by omega) rfl rfl rfl rfl (Nat.le_of_ble_eq_true rfl) (by decide) ⟨by decide, by decide⟩ ?_
          rintro a9 σ9 ⟨ea9, hσ9⟩
          obtain rfl := ea9.symm
          subst hσ9
          refine g_retI (by decide +kernel) rfl (Or.inl rfl) ⟨by decide, by decide⟩ ?_
          exact zRes.no (zQf.rf ho hR) (by rw [if_neg (by omega), if_pos h27]) (by decide)
      · refine g_aload_n (i := 0) (by decide +kernel) rfl ?_
        refine g_iconst (a := 1) (by decide +kernel) ?_
        refine g_cVI (st := _) (c_Nc_refuse hn) k_Nc_refuse l_Nc_97 (by decide +kernel) (by omega) rfl rfl rfl rfl (Nat.le_of_ble_eq_true rfl) (by decide) ⟨by decide, by decide⟩ ?_
        rintro a9 σ9 ⟨ea9, hσ9⟩
        obtain rfl := ea9.symm
        subst hσ9
        refine g_retI (by decide +kernel) rfl (Or.inl rfl) ⟨by decide, by decide⟩ ?_
        exact zRes.no (zQf.rf ho hR) (if_pos (by omega)) (by decide)
theorem c_Nc_span {G : zG} {n : Nat} {σ : zSt} {c i w : Int} (hn : 189 ≤ n) (ho : zOn σ) (hR : zRs (σ 93)) (z1 : zr c) (z2 : zr i) (z3 : zr w) : Gm G y_Nc_span m_Nc_span 7 0 0 [vr G 0, vi c, vi i, vi w] n SH σ (zI n SH (fun a σ' => zRes σ σ' a (if i < 0 ∨ w < 0 ∨ 2 < w then 1 else if ¬ (0 ≤ c ∧ c < σ 1 0) then 2 else if (zMa (zplay (zSv σ 1) c.toNat) 0 (σ 93) 2000).1 ≤ i then 8 else 0) (if w = 0 then zpc (zplay (zSv σ 1) c.toNat) 0 i 2 else if w = 1 then zpc (zplay (zSv σ 1) c.toNat) 0 i 3 else (zunp (zplay (zSv σ 1) c.toNat) (zpc (zplay (zSv σ 1) c.toNat) 0 i 2).toNat (zpc (zplay (zSv σ 1) c.toNat) 0 i 3).toNat : Int)))) := by
  refine g_enter (L := [(0, _), (1, _), (2, _), (3, _)]) (by decide) rfl rfl rfl (Nat.le_of_ble_eq_true rfl) (fun X => ?_)
  have hc := ho.1.1
  obtain ⟨z1a, z1b⟩ := id z1
  obtain ⟨z2a, z2b⟩ := id z2
  obtain ⟨z3a, z3b⟩ := id z3
  refine g_iload_n (i := 2) (by decide +kernel) rfl ?_
  refine g_if_lt (off := 12) (tgt := 13) (by decide +kernel) (by decide) ⟨by omega, by omega⟩ (fun h1 => ?_) (fun h1 => ?_)
  · refine g_aload_n (i := 0) (by decide +kernel) rfl ?_
    refine g_iconst (a := 1) (by decide +kernel) ?_
    refine g_cVI (st := _) (c_Nc_refuse hn) k_Nc_refuse l_Nc_97 (by decide +kernel) (by omega) rfl rfl rfl rfl (Nat.le_of_ble_eq_true rfl) (by decide) ⟨by decide, by decide⟩ ?_
    rintro a9 σ9 ⟨ea9, hσ9⟩
    obtain rfl := ea9.symm
    subst hσ9
    refine g_retI (by decide +kernel) rfl (Or.inl rfl) ⟨by decide, by decide⟩ ?_
    exact zRes.no (zQf.rf ho hR) (if_pos (by omega)) (by decide)
  · refine g_iload_n (i := 3) (by decide +kernel) rfl ?_
    refine g_if_lt (off := 8) (tgt := 13) (by decide +kernel) (by decide) ⟨by omega, by omega⟩ (fun h5 => ?_) (fun h5 => ?_)
    · refine g_aload_n (i := 0) (by decide +kernel) rfl ?_
      refine g_iconst (a := 1) (by decide +kernel) ?_
      refine g_cVI (st := _) (c_Nc_refuse hn) k_Nc_refuse l_Nc_97 (by decide +kernel) (by omega) rfl rfl rfl rfl (Nat.le_of_ble_eq_true rfl) (by decide) ⟨by decide, by decide⟩ ?_
      rintro a9 σ9 ⟨ea9, hσ9⟩
      obtain rfl := ea9.symm
      subst hσ9
      refine g_retI (by decide +kernel) rfl (Or.inl rfl) ⟨by decide, by decide⟩ ?_
      exact zRes.no (zQf.rf ho hR) (if_pos (by omega)) (by decide)
    · refine g_iload_n (i := 3) (by decide +kernel) rfl ?_
      refine g_iconst (a := 2) (by decide +kernel) ?_
      refine g_icmp_le (off := 9) (tgt := 19) (by decide +kernel) (by decide) ⟨by omega, by omega⟩ ⟨by omega, by omega⟩ (fun h10 => ?_) (fun h10 => ?_)
      · refine g_aload_n (i := 0) (by decide +kernel) rfl ?_
        refine g_getr f_Nc_10 (by decide +kernel) (by omega) rfl rfl ?_
        refine g_iload_n (i := 1) (by decide +kernel) rfl ?_
        refine g_cVI (st := _) (c_Sh_has (b := 1) hn sh_1 (by assumption) ⟨hc.1, hc.2.1⟩) k_Sh_has l_Nc_117 (by decide +kernel) (by omega) rfl rfl rfl rfl (Nat.le_of_ble_eq_true rfl) (by decide) ⟨by decide, by decide⟩ ?_
        rintro a σ9 ⟨ea, hσ⟩
        obtain rfl := hσ.symm
        subst ea
        refine g_if_ne (off := 9) (tgt := 36) (by decide +kernel) (by decide) zbr (fun h27 => ?_) (fun h27 => ?_)
        · have h27 := zb1.mp h27
          refine g_aload_n (i := 0) (by decide +kernel) rfl ?_
          refine g_getr f_Nc_43 (by decide +kernel) (by omega) rfl rfl ?_
          refine g_iload_n (i := 1) (by decide +kernel) rfl ?_
          refine g_iload_n (i := 2) (by decide +kernel) rfl ?_
          obtain ⟨k, ek⟩ := Int.eq_ofNat_of_zero_le h27.1
          have kt : c.toNat = k := by omega
          rw [ek]
          refine g_cVI (st := _) (c_Sr_findSpan (k := k) (w := i) hn ho (by omega) hR ⟨by assumption, by omega⟩) k_Sr_findSpan l_Nc_321 (by decide +kernel) (by omega) rfl rfl rfl rfl (Nat.le_of_ble_eq_true rfl) (by decide) ⟨by decide, by decide⟩ ?_
          rintro a τ ⟨hF, hR1, hD⟩
          rw [← ek]
          have hD2 : (a = 1 ∧ zStp2 (zplay (zSv σ 1) c.toNat) 0 i (τ 93) ∧ i < (zMa (zplay (zSv σ 1) c.toNat) 0 (σ 93) 2000).1 ∧ (0 ≤ τ 93 2 ∧ τ 93 2 ≤ τ 93 3 ∧ τ 93 3 ≤ 1999)) ∨ (a = 0 ∧ (zMa (zplay (zSv σ 1) c.toNat) 0 (σ 93) 2000).1 ≤ i) := by
            rw [kt]
            rcases hD with ⟨d1, T, d2, d3, d4⟩ | hD
            · refine Or.inl ⟨d1, ⟨T, σ 93, d2, d3, d4⟩, ?_, ?_⟩
              · have q := zMa_mono (zplay (zSv σ 1) k) 0 (σ 93) T (2000 - T)
                rw [show T + (2000 - T) = 2000 by omega, ← d3] at q
                have q : i + 1 ≤ _ := q
                omega
              · have q := zMa_fl (zplay (zSv σ 1) k) 0 (σ 93) T
                rw [← d3] at q
                rcases q with ⟨q, -⟩ | ⟨-, q1, q2, q3⟩
                · have q : i + 1 = 0 := q
                  omega
                · have q3 : τ 93 3 < (T : Int) := q3
                  exact ⟨q1, q2, by omega⟩
            · exact Or.inr hD
          have ra : a = 0 ∨ a = 1 := by omega
          refine g_if_ne (off := 10) (tgt := 55) (by decide +kernel) (by decide) ⟨by omega, by omega⟩ (fun h45 => ?_) (fun h45 => ?_)
          · have hD2 := hD2.resolve_right (fun q => h45 q.1)
            obtain ⟨-, hD2⟩ := hD2
            refine g_iload_n (i := 3) (by decide +kernel) rfl ?_
            rcases (by omega : w = 0 ∨ w = 1 ∨ (w ≠ 0 ∧ w ≠ 1)) with h56 | h56 | h56
            · refine g_lookup (dflt := 52) (ps := #[(0, 28), (1, 40)]) (len := 28) (off := 28) (tgt := 84) (by decide +kernel) (by decide) ⟨by omega, by omega⟩ (by rw [h56]; rfl) (by decide) ?_
              refine g_aload_n (i := 0) (by decide +kernel) rfl ?_
              refine g_aload_n (i := 0) (by decide +kernel) rfl ?_
              refine g_getr f_Nc_43 (by decide +kernel) (by omega) rfl rfl ?_
              refine g_geti f_Nc_304 (by decide +kernel) (by omega) rfl rfl ?_
              refine g_cVI (st := _) (c_Nc_give hn) k_Nc_give l_Nc_208 (by decide +kernel) (by omega) rfl rfl rfl rfl (Nat.le_of_ble_eq_true rfl) (by decide) ⟨by decide, by decide⟩ ?_
              rintro a9 σ9 ⟨ea9, hσ9⟩
              obtain rfl := ea9.symm
              subst hσ9
              refine g_retI (by decide +kernel) rfl (Or.inl rfl) ⟨by decide, by decide⟩ ?_
              exact zRes.ok (zQf.fr hF hR1) (by rw [if_neg (by omega), if_neg (by omega), if_neg (by omega)]) (by rw [if_pos h56]; exact (zpc_eq (by omega) hD2.1 2 (by decide) (by decide)).symm)
            · refine g_lookup (dflt := 52) (ps := #[(0, 28), (1, 40)]) (len := 28) (off := 40) (tgt := 96) (by decide +kernel) (by decide) ⟨by omega, by omega⟩ (by rw [h56]; rfl) (by decide) ?_
              refine g_aload_n (i := 0) (by decide +kernel) rfl ?_
              refine g_aload_n (i := 0) (by decide +kernel) rfl ?_
              refine g_getr f_Nc_43 (by decide +kernel) (by omega) rfl rfl ?_
              refine g_geti f_Nc_307 (by decide +kernel) (by omega) rfl rfl ?_
              refine g_cVI (st := _) (c_Nc_give hn) k_Nc_give l_Nc_208 (by decide +kernel) (by omega) rfl rfl rfl rfl (Nat.le_of_ble_eq_true rfl) (by decide) ⟨by decide, by decide⟩ ?_
              rintro a9 σ9 ⟨ea9, hσ9⟩
              obtain rfl := ea9.symm
              subst hσ9
              refine g_retI (by decide +kernel) rfl (Or.inl rfl) ⟨by decide, by decide⟩ ?_
              exact zRes.ok (zQf.fr hF hR1) (by rw [if_neg (by omega), if_neg (by omega), if_neg (by omega)]) (by rw [if_neg (by omega), if_pos h56]; exact (zpc_eq (by omega) hD2.1 3 (by decide) (by decide)).symm)
            · refine g_lookup (dflt := 52) (ps := #[(0, 28), (1, 40)]) (len := 28) (off := 52) (tgt := 108) (by decide +kernel) (by decide) ⟨by omega, by omega⟩ (by simp [Op.lookupswitch.offset]; (repeat' split) <;> omega) (by decide) ?_
              refine g_aload_n (i := 0) (by decide +kernel) rfl ?_
              refine g_aload_n (i := 0) (by decide +kernel) rfl ?_
              refine g_getr f_Nc_43 (by decide +kernel) (by omega) rfl rfl ?_
              refine g_iload_n (i := 1) (by decide +kernel) rfl ?_
              refine g_aload_n (i := 0) (by decide +kernel) rfl ?_
              refine g_getr f_Nc_43 (by decide +kernel) (by omega) rfl rfl ?_
              refine g_geti f_Nc_304 (by decide +kernel) (by omega) rfl rfl ?_
              refine g_aload_n (i := 0) (by decide +kernel) rfl ?_
              refine g_getr f_Nc_43 (by decide +kernel) (by omega) rfl rfl ?_
              refine g_geti f_Nc_307 (by decide +kernel) (by omega) rfl rfl ?_
              obtain ⟨f, ef⟩ := Int.eq_ofNat_of_zero_le hD2.2.2.1
              obtain ⟨l, el⟩ := Int.eq_ofNat_of_zero_le (show 0 ≤ τ 93 3 by omega)
              have hkT : k < (τ 1 0).toNat := by rw [hF.1 1 (by decide) (by decide)]; omega
              rw [ek, ef, el]
              refine g_cVI (st := _) (c_Sr_unlikeLocals (k := k) (f := f) (l := l) hn hF.2 hkT (by omega) (by omega)) k_Sr_unlikeLocals l_Nc_324 (by decide +kernel) (by omega) rfl rfl rfl rfl (Nat.le_of_ble_eq_true rfl) (by decide) ⟨by decide, by decide⟩ ?_
              rintro a2 τ2 ⟨hF2, ea2⟩
              rw [← ek]
              have ev2 : zplay (zSv τ 1) k = zplay (zSv σ 1) c.toNat := by
                funext s
                unfold zplay
                rw [hF.v ho, kt]
              rw [ev2] at ea2
              refine g_cVI (st := _) (c_Nc_give hn) k_Nc_give l_Nc_208 (by decide +kernel) (by omega) rfl rfl rfl rfl (Nat.le_of_ble_eq_true rfl) (by decide) ⟨by decide, by decide⟩ ?_
              rintro a9 σ9 ⟨ea9, hσ9⟩
              obtain rfl := ea9.symm
              subst hσ9
              refine g_retI (by decide +kernel) rfl (Or.inl rfl) ⟨by decide, by decide⟩ ?_
              have q2 := zpc_eq (by omega) hD2.1 2 (by decide) (by decide)
              have q3 := zpc_eq (by omega) hD2.1 3 (by decide) (by decide)
              exact zRes.ok ((zQf.fr hF hR1).tr (zQf.fq hF2 hR1)) (by rw [if_neg (by omega), if_neg (by omega), if_neg (by omega)]) (by rw [if_neg (by omega), if_neg (by omega), ← q2, ← q3, ef, el, Int.toNat_natCast, Int.toNat_natCast]; exact ea2.symm)
          · have hD3 : (zMa (zplay (zSv σ 1) c.toNat) 0 (σ 93) 2000).1 ≤ i := by omega
            refine g_aload_n (i := 0) (by decide +kernel) rfl ?_
            refine g_bipush (a := 8) (by decide +kernel) (by decide) ?_
            refine g_cVI (st := _) (c_Nc_refuse hn) k_Nc_refuse l_Nc_97 (by decide +kernel) (by omega) rfl rfl rfl rfl (Nat.le_of_ble_eq_true rfl) (by decide) ⟨by decide, by decide⟩ ?_
            rintro a9 σ9 ⟨ea9, hσ9⟩
            obtain rfl := ea9.symm
            subst hσ9
            refine g_retI (by decide +kernel) rfl (Or.inl rfl) ⟨by decide, by decide⟩ ?_
            exact zRes.no (zQf.fr hF hR1) (by rw [if_neg (by omega), if_neg (by omega), if_pos hD3]) (by decide)
        · have h27 := zb0.mp h27
          refine g_aload_n (i := 0) (by decide +kernel) rfl ?_
          refine g_iconst (a := 2) (by decide +kernel) ?_
          refine g_cVI (st := _) (c_Nc_refuse hn) k_Nc_refuse l_Nc_97 (by decide +kernel) (by omega) rfl rfl rfl rfl (Nat.le_of_ble_eq_true rfl) (by decide) ⟨by decide, by decide⟩ ?_
          rintro a9 σ9 ⟨ea9, hσ9⟩
          obtain rfl := ea9.symm
          subst hσ9
          refine g_retI (by decide +kernel) rfl (Or.inl rfl) ⟨by decide, by decide⟩ ?_
          exact zRes.no (zQf.rf ho hR) (by rw [if_neg (by omega), if_pos h27]) (by decide)
      · refine g_aload_n (i := 0) (by decide +kernel) rfl ?_
        refine g_iconst (a := 1) (by decide +kernel) ?_
        refine g_cVI (st := _) (c_Nc_refuse hn) k_Nc_refuse l_Nc_97 (by decide +kernel) (by omega) rfl rfl rfl rfl (Nat.le_of_ble_eq_true rfl) (by decide) ⟨by decide, by decide⟩ ?_
        rintro a9 σ9 ⟨ea9, hσ9⟩
        obtain rfl := ea9.symm
        subst hσ9
        refine g_retI (by decide +kernel) rfl (Or.inl rfl) ⟨by decide, by decide⟩ ?_
        exact zRes.no (zQf.rf ho hR) (if_pos (by omega)) (by decide)
theorem zfr_in {q : Nat → Bool} : ∀ m t, -1 ≤ zfr q m t ∧ zfr q m t < t + m
  | 0, t => ⟨Int.le_refl (-1), by show (-1 : Int) < _; omega⟩
  | m + 1, t => by
    have a := zfr_in (q := q) m (t + 1)
    rw [zfr_s]
    split
    · constructor <;> push_cast <;> omega
    · constructor
      · exact a.1
      · push_cast at a ⊢; omega
theorem c_Nc_reach {G : zG} {n : Nat} {σ : zSt} {c i w : Int} (hn : 189 ≤ n) (ho : zOn σ) (hR : zRs (σ 93)) (z1 : zr c) (z2 : zr i) (z3 : zr w) : Gm G y_Nc_reach m_Nc_reach 7 0 0 [vr G 0, vi c, vi i, vi w] n SH σ (zI n SH (fun a σ' => zRes σ σ' a (if i < 0 ∨ w < 0 then 1 else if ¬ (0 ≤ c ∧ c < σ 1 0) then 2 else if (zMa (zplay (zSv σ 1) c.toNat) 1 (σ 93) 2000).1 ≤ i ∨ zfr (fun t => zrch (zpc (zplay (zSv σ 1) c.toNat) 1 i 4) (zv (zSv σ 1) (t : Int) 2 c.toNat) w) (zpc (zplay (zSv σ 1) c.toNat) 1 i 3 + 1 - zpc (zplay (zSv σ 1) c.toNat) 1 i 2).toNat (zpc (zplay (zSv σ 1) c.toNat) 1 i 2).toNat = -1 then 8 else 0) (zfr (fun t => zrch (zpc (zplay (zSv σ 1) c.toNat) 1 i 4) (zv (zSv σ 1) (t : Int) 2 c.toNat) w) (zpc (zplay (zSv σ 1) c.toNat) 1 i 3 + 1 - zpc (zplay (zSv σ 1) c.toNat) 1 i 2).toNat (zpc (zplay (zSv σ 1) c.toNat) 1 i 2).toNat))) := by
  refine g_enter (L := [(0, _), (1, _), (2, _), (3, _)]) (by decide) rfl rfl rfl (Nat.le_of_ble_eq_true rfl) (fun X => ?_)
  have hc := ho.1.1
  obtain ⟨z1a, z1b⟩ := id z1
  obtain ⟨z2a, z2b⟩ := id z2
  obtain ⟨z3a, z3b⟩ := id z3
  have J56 : ∀ (τ : zSt) (a : Int), zQf σ τ → ¬ (i < 0 ∨ w < 0) → (0 ≤ c ∧ c < σ 1 0) → (-1 ≤ a ∧ a ≤ 4000) → (((zMa (zplay (zSv σ 1) c.toNat) 1 (σ 93) 2000).1 ≤ i ∧ a = -1) ∨ (i < (zMa (zplay (zSv σ 1) c.toNat) 1 (σ 93) 2000).1 ∧ a = zfr (fun t => zrch (zpc (zplay (zSv σ 1) c.toNat) 1 i 4) (zv (zSv σ 1) (t : Int) 2 c.toNat) w) (zpc (zplay (zSv σ 1) c.toNat) 1 i 3 + 1 - zpc (zplay (zSv σ 1) c.toNat) 1 i 2).toNat (zpc (zplay (zSv σ 1) c.toNat) 1 i 2).toNat)) → Go G X m_Nc_reach (7, 0, 0, 0, 0) n SH τ 56 [(0, vr G 0), (1, vi c), (2, vi i), (3, vi w)] [vi a] (zI n SH (fun a σ' => zRes σ σ' a (if i < 0 ∨ w < 0 then 1 else if ¬ (0 ≤ c ∧ c < σ 1 0) then 2 else if (zMa (zplay (zSv σ 1) c.toNat) 1 (σ 93) 2000).1 ≤ i ∨ zfr (fun t => zrch (zpc (zplay (zSv σ 1) c.toNat) 1 i 4) (zv (zSv σ 1) (t : Int) 2 c.toNat) w) (zpc (zplay (zSv σ 1) c.toNat) 1 i 3 + 1 - zpc (zplay (zSv σ 1) c.toNat) 1 i 2).toNat (zpc (zplay (zSv σ 1) c.toNat) 1 i 2).toNat = -1 then 8 else 0) (zfr (fun t => zrch (zpc (zplay (zSv σ 1) c.toNat) 1 i 4) (zv (zSv σ 1) (t : Int) 2 c.toNat) w) (zpc (zplay (zSv σ 1) c.toNat) 1 i 3 + 1 - zpc (zplay (zSv σ 1) c.toNat) 1 i 2).toNat (zpc (zplay (zSv σ 1) c.toNat) 1 i 2).toNat))) := by
    intro τ a hQ hiw hcl ra hor
    refine g_istore (i := 4) (L' := [(0, _), (1, _), (2, _), (3, _), (4, _)]) (by decide +kernel) rfl rfl ?_
    refine g_iload (i := 4) (by decide +kernel) rfl ?_
    refine g_iconst (a := -1) (by decide +kernel) ?_
    refine g_icmp_ne (off := 12) (tgt := 73) (by decide +kernel) (by decide) ⟨by omega, by omega⟩ ⟨by omega, by omega⟩ (fun h61 => ?_) (fun h61 => ?_)
    · refine g_aload_n (i := 0) (by decide +kernel) rfl ?_
      refine g_iload (i := 4) (by decide +kernel) rfl ?_
      refine g_cVI (st := _) (c_Nc_give hn) k_Nc_give l_Nc_208 (by decide +kernel) (by omega) rfl rfl rfl rfl (Nat.le_of_ble_eq_true rfl) (by decide) ⟨by decide, by decide⟩ ?_
      rintro a9 σ9 ⟨ea9, hσ9⟩
      obtain rfl := ea9.symm
      subst hσ9
      refine g_retI (by decide +kernel) rfl (Or.inl rfl) ⟨by decide, by decide⟩ ?_
      first
        | (have hz : a = -1 := h61
           exact zRes.no hQ (by rw [if_neg hiw, if_neg (by omega), if_pos (by omega)]) (by decide))
        | (have hz : ¬ a = -1 := h61
           exact zRes.ok hQ (by rw [if_neg hiw, if_neg (by omega), if_neg (by omega)]) (by omega))
    · refine g_aload_n (i := 0) (by decide +kernel) rfl ?_
      refine g_bipush (a := 8) (by decide +kernel) (by decide) ?_
      refine g_cVI (st := _) (c_Nc_refuse hn) k_Nc_refuse l_Nc_97 (by decide +kernel) (by omega) rfl rfl rfl rfl (Nat.le_of_ble_eq_true rfl) (by decide) ⟨by decide, by decide⟩ ?_
      rintro a9 σ9 ⟨ea9, hσ9⟩
      obtain rfl := ea9.symm
      subst hσ9
      refine g_goto (off := 9) (tgt := 79) (by decide +kernel) (by decide) ?_
      refine g_retI (by decide +kernel) rfl (Or.inl rfl) ⟨by decide, by decide⟩ ?_
      first
        | (have hz : a = -1 := h61
           exact zRes.no hQ (by rw [if_neg hiw, if_neg (by omega), if_pos (by omega)]) (by decide))
        | (have hz : ¬ a = -1 := h61
           exact zRes.ok hQ (by rw [if_neg hiw, if_neg (by omega), if_neg (by omega)]) (by omega))
  refine g_iload_n (i := 2) (by decide +kernel) rfl ?_
  refine g_if_lt (off := 7) (tgt := 8) (by decide +kernel) (by decide) ⟨by omega, by omega⟩ (fun h1 => ?_) (fun h1 => ?_)
  · refine g_aload_n (i := 0) (by decide +kernel) rfl ?_
    refine g_iconst (a := 1) (by decide +kernel) ?_
    refine g_cVI (st := _) (c_Nc_refuse hn) k_Nc_refuse l_Nc_97 (by decide +kernel) (by omega) rfl rfl rfl rfl (Nat.le_of_ble_eq_true rfl) (by decide) ⟨by decide, by decide⟩ ?_
    rintro a9 σ9 ⟨ea9, hσ9⟩
    obtain rfl := ea9.symm
    subst hσ9
    refine g_retI (by decide +kernel) rfl (Or.inl rfl) ⟨by decide, by decide⟩ ?_
    exact zRes.no (zQf.rf ho hR) (if_pos (by omega)) (by decide)
  · refine g_iload_n (i := 3) (by decide +kernel) rfl ?_
    refine g_if_ge (off := 9) (tgt := 14) (by decide +kernel) (by decide) ⟨by omega, by omega⟩ (fun h5 => ?_) (fun h5 => ?_)
    · refine g_aload_n (i := 0) (by decide +kernel) rfl ?_
      refine g_getr f_Nc_10 (by decide +kernel) (by omega) rfl rfl ?_
      refine g_iload_n (i := 1) (by decide +kernel) rfl ?_
      refine g_cVI (st := _) (c_Sh_has (b := 1) hn sh_1 (by assumption) ⟨hc.1, hc.2.1⟩) k_Sh_has l_Nc_117 (by decide +kernel) (by omega) rfl rfl rfl rfl (Nat.le_of_ble_eq_true rfl) (by decide) ⟨by decide, by decide⟩ ?_
      rintro a σ9 ⟨ea, hσ⟩
      obtain rfl := hσ.symm
      subst ea
      refine g_if_ne (off := 9) (tgt := 31) (by decide +kernel) (by decide) zbr (fun h22 => ?_) (fun h22 => ?_)
      · have h22 := zb1.mp h22
        refine g_aload_n (i := 0) (by decide +kernel) rfl ?_
        refine g_getr f_Nc_43 (by decide +kernel) (by omega) rfl rfl ?_
        refine g_iload_n (i := 1) (by decide +kernel) rfl ?_
        refine g_iload_n (i := 2) (by decide +kernel) rfl ?_
        obtain ⟨k, ek⟩ := Int.eq_ofNat_of_zero_le h22.1
        have kt : c.toNat = k := by omega
        rw [ek]
        refine g_cVI (st := _) (c_Sr_findPiece (k := k) (w := i) hn ho (by omega) hR ⟨by assumption, by omega⟩) k_Sr_findPiece l_Nc_301 (by decide +kernel) (by omega) rfl rfl rfl rfl (Nat.le_of_ble_eq_true rfl) (by decide) ⟨by decide, by decide⟩ ?_
        rintro a τ ⟨hF, hR1, hD⟩
        rw [← ek]
        have hD2 : (a = 1 ∧ zStp2 (zplay (zSv σ 1) c.toNat) 1 i (τ 93) ∧ i < (zMa (zplay (zSv σ 1) c.toNat) 1 (σ 93) 2000).1 ∧ (0 ≤ τ 93 2 ∧ τ 93 2 ≤ τ 93 3 ∧ τ 93 3 ≤ 1999)) ∨ (a = 0 ∧ (zMa (zplay (zSv σ 1) c.toNat) 1 (σ 93) 2000).1 ≤ i) := by
          rw [kt]
          rcases hD with ⟨d1, T, d2, d3, d4⟩ | hD
          · refine Or.inl ⟨d1, ⟨T, σ 93, d2, d3, d4⟩, ?_, ?_⟩
            · have q := zMa_mono (zplay (zSv σ 1) k) 1 (σ 93) T (2000 - T)
              rw [show T + (2000 - T) = 2000 by omega, ← d3] at q
              have q : i + 1 ≤ _ := q
              omega
            · have q := zMa_fl (zplay (zSv σ 1) k) 1 (σ 93) T
              rw [← d3] at q
              rcases q with ⟨q, -⟩ | ⟨-, q1, q2, q3⟩
              · have q : i + 1 = 0 := q
                omega
              · have q3 : τ 93 3 < (T : Int) := q3
                exact ⟨q1, q2, by omega⟩
          · exact Or.inr hD
        have ra : a = 0 ∨ a = 1 := by omega
        refine g_if_eq (off := 15) (tgt := 55) (by decide +kernel) (by decide) ⟨by omega, by omega⟩ (fun h40 => ?_) (fun h40 => ?_)
        · have hD3 : (zMa (zplay (zSv σ 1) c.toNat) 1 (σ 93) 2000).1 ≤ i := by omega
          refine g_iconst (a := -1) (by decide +kernel) ?_
          first
            | exact J56 _ _ (zQf.fr hF hR1) (by omega) h22 ⟨by decide, by decide⟩ (Or.inl ⟨hD3, rfl⟩)
            | (have q2 := zpc_eq (by omega) hD2.1 2 (by decide) (by decide)
               have q3 := zpc_eq (by omega) hD2.1 3 (by decide) (by decide)
               have q4 := zpc_eq (by omega) hD2.1 4 (by decide) (by decide)
               have fi := zfr_in (q := fun t => zrch (τ 93 4) (zv (zSv τ 1) (t : Int) 2 k) w) (τ 93 3 + 1 - τ 93 2).toNat (τ 93 2).toNat
               rw [← ea2] at fi
               refine J56 _ _ ((zQf.fr hF hR1).tr (zQf.fr hF2 (by rw [h93]; exact hR1))) (by omega) h22 ⟨by omega, by omega⟩ (Or.inr ⟨hD2.2.1, ?_⟩)
               rw [ea2, q2, q3, q4, kt]
               have ef : (fun t : Nat => zrch (zpc (zplay (zSv σ 1) c.toNat) 1 i 4) (zv (zSv τ 1) (t : Int) 2 k) w) = (fun t : Nat => zrch (zpc (zplay (zSv σ 1) c.toNat) 1 i 4) (zv (zSv σ 1) (t : Int) 2 k) w) := by
                 funext t
                 rw [hF.v ho]
               rw [kt] at ef
               rw [ef])
        · have hD2 := hD2.resolve_right (fun q => h40 q.1)
          obtain ⟨-, hD2⟩ := hD2
          refine g_aload_n (i := 0) (by decide +kernel) rfl ?_
          refine g_getr f_Nc_43 (by decide +kernel) (by omega) rfl rfl ?_
          refine g_iload_n (i := 1) (by decide +kernel) rfl ?_
          refine g_iload_n (i := 3) (by decide +kernel) rfl ?_
          have hkT : k < (τ 1 0).toNat := by rw [hF.1 1 (by decide) (by decide)]; omega
          rw [ek]
          refine g_cVI (st := _) (c_Sr_firstTimeAt (k := k) (w := w) hn hF.2 hkT hR1 z3 ⟨hD2.2.2.1, hD2.2.2.2.2⟩) k_Sr_firstTimeAt l_Nc_315 (by decide +kernel) (by omega) rfl rfl rfl rfl (Nat.le_of_ble_eq_true rfl) (by decide) ⟨by decide, by decide⟩ ?_
          rintro a2 τ2 ⟨hF2, h93, ea2⟩
          rw [← ek]
          refine g_goto (off := 4) (tgt := 56) (by decide +kernel) (by decide) ?_
          first
            | exact J56 _ _ (zQf.fr hF hR1) (by omega) h22 ⟨by decide, by decide⟩ (Or.inl ⟨hD3, rfl⟩)
            | (have q2 := zpc_eq (by omega) hD2.1 2 (by decide) (by decide)
               have q3 := zpc_eq (by omega) hD2.1 3 (by decide) (by decide)
               have q4 := zpc_eq (by omega) hD2.1 4 (by decide) (by decide)
               have fi := zfr_in (q := fun t => zrch (τ 93 4) (zv (zSv τ 1) (t : Int) 2 k) w) (τ 93 3 + 1 - τ 93 2).toNat (τ 93 2).toNat
               rw [← ea2] at fi
               refine J56 _ _ ((zQf.fr hF hR1).tr (zQf.fr hF2 (by rw [h93]; exact hR1))) (by omega) h22 ⟨by omega, by omega⟩ (Or.inr ⟨hD2.2.1, ?_⟩)
               rw [ea2, q2, q3, q4, kt]
               have ef : (fun t : Nat => zrch (zpc (zplay (zSv σ 1) c.toNat) 1 i 4) (zv (zSv τ 1) (t : Int) 2 k) w) = (fun t : Nat => zrch (zpc (zplay (zSv σ 1) c.toNat) 1 i 4) (zv (zSv σ 1) (t : Int) 2 k) w) := by
                 funext t
                 rw [hF.v ho]
               rw [kt] at ef
               rw [ef])
      · have h22 := zb0.mp h22
        refine g_aload_n (i := 0) (by decide +kernel) rfl ?_
        refine g_iconst (a := 2) (by decide +kernel) ?_
        refine g_cVI (st := _) (c_Nc_refuse hn) k_Nc_refuse l_Nc_97 (by decide +kernel) (by omega) rfl rfl rfl rfl (Nat.le_of_ble_eq_true rfl) (by decide) ⟨by decide, by decide⟩ ?_
        rintro a9 σ9 ⟨ea9, hσ9⟩
        obtain rfl := ea9.symm
        subst hσ9
        refine g_retI (by decide +kernel) rfl (Or.inl rfl) ⟨by decide, by decide⟩ ?_
        exact zRes.no (zQf.rf ho hR) (by rw [if_neg (by omega), if_pos h22]) (by decide)
    · refine g_aload_n (i := 0) (by decide +kernel) rfl ?_
      refine g_iconst (a := 1) (by decide +kernel) ?_
      refine g_cVI (st := _) (c_Nc_refuse hn) k_Nc_refuse l_Nc_97 (by decide +kernel) (by omega) rfl rfl rfl rfl (Nat.le_of_ble_eq_true rfl) (by decide) ⟨by decide, by decide⟩ ?_
      rintro a9 σ9 ⟨ea9, hσ9⟩
      obtain rfl := ea9.symm
      subst hσ9
      refine g_retI (by decide +kernel) rfl (Or.inl rfl) ⟨by decide, by decide⟩ ?_
      exact zRes.no (zQf.rf ho hR) (if_pos (by omega)) (by decide)
