/-! a clip is written into a block at o -/
def zmks (c : Nat → Int) (b : Nat) (mk : Nat → Int) (w : Nat) : Nat → Int := fun j => if b ≤ j ∧ j < b + w then mk (j - b) else c j
theorem zmks_0 (c : Nat → Int) (b : Nat) (mk : Nat → Int) : zmks c b mk 0 = c := by funext j; unfold zmks; rw [if_neg (by omega)]
theorem zmks_s (c : Nat → Int) (b : Nat) (mk : Nat → Int) (w : Nat) : zu (zmks c b mk w) (b + w) (mk w) = zmks c b mk (w + 1) := by
  funext j
  by_cases z : j = b + w
  · rw [z, zu_eq]; unfold zmks; rw [if_pos (by omega), show b + w - b = w by omega]
  · rw [zu_ne z]; unfold zmks
    by_cases y : b ≤ j ∧ j < b + w
    · rw [if_pos y, if_pos (by omega)]
    · rw [if_neg y, if_neg (by omega)]
theorem zmks_out {c : Nat → Int} {b : Nat} {mk : Nat → Int} {w j : Nat} (h : j < b ∨ b + w ≤ j) : zmks c b mk w j = c j := by unfold zmks; rw [if_neg (by omega)]
theorem zmks_in {c : Nat → Int} {b : Nat} {mk : Nat → Int} {w u : Nat} (h : u < w) : zmks c b mk w (b + u) = mk u := by unfold zmks; rw [if_pos (by omega), show b + u - b = u by omega]
def zwc (c : Nat → Int) (o k : Nat) (x y p h t m : Int) (mk : Nat → Int) : Nat → Int := zu (zu (zu (zmks (zu (zu (zu c (o + 2 + k) x) (o + 14 + k) y) (o + 26 + k) p) (o + 38 + 9 * k) mk 9) (o + 146 + k) h) (o + 158 + k) t) (o + 170 + k) m
section WC
variable {c : Nat → Int} {o k : Nat} {x y p h t m : Int} {mk : Nat → Int}
theorem zwc_1 (hk : k < 12) : zwc c o k x y p h t m mk (o + 2 + k) = x := by unfold zwc; rw [zu_ne (by omega), zu_ne (by omega), zu_ne (by omega), zmks_out (by omega), zu_ne (by omega), zu_ne (by omega), zu_eq]
theorem zwc_2 (hk : k < 12) : zwc c o k x y p h t m mk (o + 14 + k) = y := by unfold zwc; rw [zu_ne (by omega), zu_ne (by omega), zu_ne (by omega), zmks_out (by omega), zu_ne (by omega), zu_eq]
theorem zwc_3 (hk : k < 12) : zwc c o k x y p h t m mk (o + 26 + k) = p := by unfold zwc; rw [zu_ne (by omega), zu_ne (by omega), zu_ne (by omega), zmks_out (by omega), zu_eq]
theorem zwc_4 (hk : k < 12) : zwc c o k x y p h t m mk (o + 146 + k) = h := by unfold zwc; rw [zu_ne (by omega), zu_ne (by omega), zu_eq]
theorem zwc_5 (hk : k < 12) : zwc c o k x y p h t m mk (o + 158 + k) = t := by unfold zwc; rw [zu_ne (by omega), zu_eq]
theorem zwc_6 (hk : k < 12) : zwc c o k x y p h t m mk (o + 170 + k) = m := by unfold zwc; rw [zu_eq]
theorem zwc_7 (hk : k < 12) {u : Nat} (hu : u < 9) : zwc c o k x y p h t m mk (o + 38 + 9 * k + u) = mk u := by unfold zwc; rw [zu_ne (by omega), zu_ne (by omega), zu_ne (by omega), zmks_in hu]
theorem zwc_o {j : Nat} (h1 : j ≠ o + 2 + k) (h2 : j ≠ o + 14 + k) (h3 : j ≠ o + 26 + k) (h4 : j ≠ o + 146 + k) (h5 : j ≠ o + 158 + k) (h6 : j ≠ o + 170 + k) (h7 : j < o + 38 + 9 * k ∨ o + 38 + 9 * k + 9 ≤ j) : zwc c o k x y p h t m mk j = c j := by unfold zwc; rw [zu_ne h6, zu_ne h5, zu_ne h4, zmks_out h7, zu_ne h3, zu_ne h2, zu_ne h1]
end WC
theorem w_Md_begins {G : zG} {X : zX} {n : Nat} {σ : zSt} {k : Nat} {x y p : Int} (hn : 220 ≤ n) (hk : k < 12)  : ∀ (m : Nat) (i : Nat) (x6 : Int), x6 = (i : Int) → i ≤ 9 → 9 < i + m → Go G X m_Md_begins (0, 0, 0, 0, 0) n SH (zrow σ 190 (zmks (zu (zu (zu (σ 190) (1746 + 2 + k) x) (1746 + 14 + k) y) (1746 + 26 + k) p) (1746 + 38 + 9 * k) (zTab 0) i)) 47 [(0, vr G 189), (1, vi (k : Int)), (2, vi x), (3, vi y), (4, vi p), (5, vi 1746), (6, vi x6)] [] (zV n SH (fun σ' => σ' = zrow σ 190 (zwc (σ 190) 1746 k x y p 0 (-1) 0 (zTab 0)))) := by
  intro m
  induction m with
  | zero => intro i x6 e6 hi hm; exact absurd hm (by omega)
  | succ m ih =>
    intro i x6 e6 hi hm
    subst e6
    refine g_iload (i := 6) (by decide +kernel) rfl ?_
    refine g_bipush (a := 9) (by decide +kernel) (by decide) ?_
    refine g_icmp_ge (off := 44) (tgt := 95) (by decide +kernel) (by decide) ⟨by omega, by omega⟩ ⟨by omega, by omega⟩ (fun h51 => ?_) (fun h51 => ?_)
    · refine g_aload_n (i := 0) (by decide +kernel) rfl ?_
      refine g_getr f_Md_7 (by decide +kernel) (by omega) rfl rfl ?_
      refine g_iload (i := 5) (by decide +kernel) rfl ?_
      refine g_sipush (a := 146) (by decide +kernel) (by decide) ?_
      refine g_iadd (by decide +kernel) ?_
      refine g_iload_n (i := 1) (by decide +kernel) rfl ?_
      refine g_iadd (by decide +kernel) ?_
      refine g_iconst (a := 0) (by decide +kernel) ?_
      refine g_iast (j := (1746 + 146 + k)) (by decide +kernel) (by omega) rfl (by omega) (by omega) (by decide) ?_
      refine g_aload_n (i := 0) (by decide +kernel) rfl ?_
      refine g_getr f_Md_7 (by decide +kernel) (by omega) rfl rfl ?_
      refine g_iload (i := 5) (by decide +kernel) rfl ?_
      refine g_sipush (a := 158) (by decide +kernel) (by decide) ?_
      refine g_iadd (by decide +kernel) ?_
      refine g_iload_n (i := 1) (by decide +kernel) rfl ?_
      refine g_iadd (by decide +kernel) ?_
      refine g_iconst (a := -1) (by decide +kernel) ?_
      refine g_iast (j := (1746 + 158 + k)) (by decide +kernel) (by omega) rfl (by omega) (by omega) (by decide) ?_
      refine g_aload_n (i := 0) (by decide +kernel) rfl ?_
      refine g_getr f_Md_7 (by decide +kernel) (by omega) rfl rfl ?_
      refine g_iload (i := 5) (by decide +kernel) rfl ?_
      refine g_sipush (a := 170) (by decide +kernel) (by decide) ?_
      refine g_iadd (by decide +kernel) ?_
      refine g_iload_n (i := 1) (by decide +kernel) rfl ?_
      refine g_iadd (by decide +kernel) ?_
      refine g_iconst (a := 0) (by decide +kernel) ?_
      refine g_iast (j := (1746 + 170 + k)) (by decide +kernel) (by omega) rfl (by omega) (by omega) (by decide) ?_
      refine g_retV (by decide +kernel) rfl ⟨by decide, by decide⟩ ?_
      obtain rfl : i = 9 := by omega
      rw [zs_zrow, zs_zrow, zs_zrow]
      rfl
    · refine g_aload_n (i := 0) (by decide +kernel) rfl ?_
      refine g_getr f_Md_7 (by decide +kernel) (by omega) rfl rfl ?_
      refine g_iload (i := 5) (by decide +kernel) rfl ?_
      refine g_bipush (a := 38) (by decide +kernel) (by decide) ?_
      refine g_iadd (by decide +kernel) ?_
      refine g_bipush (a := 9) (by decide +kernel) (by decide) ?_
      refine g_iload_n (i := 1) (by decide +kernel) rfl ?_
      refine g_imul (by decide +kernel) ?_
      refine g_iadd (by decide +kernel) ?_
      refine g_iload (i := 6) (by decide +kernel) rfl ?_
      refine g_iadd (by decide +kernel) ?_
      refine g_iload (i := 6) (by decide +kernel) rfl ?_
      refine g_iconst (a := 1) (by decide +kernel) ?_
      refine g_icmp_eq (off := 9) (tgt := 83) (by decide +kernel) (by decide) ⟨by omega, by omega⟩ ⟨by omega, by omega⟩ (fun h74 => ?_) (fun h74 => ?_)
      · refine g_iconst (a := 1) (by decide +kernel) ?_
        refine g_goto (off := 4) (tgt := 88) (by decide +kernel) (by decide) ?_
        refine g_iast (j := (1746 + 38 + 9 * k + i)) (by decide +kernel) (by omega) rfl (by omega) (by omega) (by decide) ?_
        refine g_iinc (i := 6) (b := 1) (L' := [(0, _), (1, _), (2, _), (3, _), (4, _), (5, _), (6, _)]) (by decide +kernel) rfl rfl rfl ?_
        refine g_goto (off := -45) (tgt := 47) (by decide +kernel) (by decide) ?_
        rw [zs_zrow]
        refine g_eq (ih (i + 1) _ (by push_cast; rfl) (by omega) (by omega)) ?_ rfl rfl
        rw [← zmks_s]
        have e : ∀ v : Int, v = zTab 0 i → zrow σ 190 (zu (zmks (zu (zu (zu (σ 190) (1746 + 2 + k) x) (1746 + 14 + k) y) (1746 + 26 + k) p) (1746 + 38 + 9 * k) (zTab 0) i) (1746 + 38 + 9 * k + i) v) = zrow σ 190 (zu (zmks (zu (zu (zu (σ 190) (1746 + 2 + k) x) (1746 + 14 + k) y) (1746 + 26 + k) p) (1746 + 38 + 9 * k) (zTab 0) i) (1746 + 38 + 9 * k + i) (zTab 0 i)) := fun v ev => by rw [ev]
        refine e _ ?_
        first
          | (have z : i = 1 := by omega
             subst z; rfl)
          | (have z : i = 2 := by omega
             subst z; rfl)
          | (rcases (by omega : i = 0 ∨ i = 3 ∨ i = 4 ∨ i = 5 ∨ i = 6 ∨ i = 7 ∨ i = 8) with rfl | rfl | rfl | rfl | rfl | rfl | rfl <;> rfl)
      · refine g_iload (i := 6) (by decide +kernel) rfl ?_
        refine g_iconst (a := 2) (by decide +kernel) ?_
        refine g_icmp_ne (off := 7) (tgt := 87) (by decide +kernel) (by decide) ⟨by omega, by omega⟩ ⟨by omega, by omega⟩ (fun h80 => ?_) (fun h80 => ?_)
        · refine g_iconst (a := 0) (by decide +kernel) ?_
          refine g_iast (j := (1746 + 38 + 9 * k + i)) (by decide +kernel) (by omega) rfl (by omega) (by omega) (by decide) ?_
          refine g_iinc (i := 6) (b := 1) (L' := [(0, _), (1, _), (2, _), (3, _), (4, _), (5, _), (6, _)]) (by decide +kernel) rfl rfl rfl ?_
          refine g_goto (off := -45) (tgt := 47) (by decide +kernel) (by decide) ?_
          rw [zs_zrow]
          refine g_eq (ih (i + 1) _ (by push_cast; rfl) (by omega) (by omega)) ?_ rfl rfl
          rw [← zmks_s]
          have e : ∀ v : Int, v = zTab 0 i → zrow σ 190 (zu (zmks (zu (zu (zu (σ 190) (1746 + 2 + k) x) (1746 + 14 + k) y) (1746 + 26 + k) p) (1746 + 38 + 9 * k) (zTab 0) i) (1746 + 38 + 9 * k + i) v) = zrow σ 190 (zu (zmks (zu (zu (zu (σ 190) (1746 + 2 + k) x) (1746 + 14 + k) y) (1746 + 26 + k) p) (1746 + 38 + 9 * k) (zTab 0) i) (1746 + 38 + 9 * k + i) (zTab 0 i)) := fun v ev => by rw [ev]
          refine e _ ?_
          first
            | (have z : i = 1 := by omega
               subst z; rfl)
            | (have z : i = 2 := by omega
               subst z; rfl)
            | (rcases (by omega : i = 0 ∨ i = 3 ∨ i = 4 ∨ i = 5 ∨ i = 6 ∨ i = 7 ∨ i = 8) with rfl | rfl | rfl | rfl | rfl | rfl | rfl <;> rfl)
        · refine g_iconst (a := 1) (by decide +kernel) ?_
          refine g_goto (off := 4) (tgt := 88) (by decide +kernel) (by decide) ?_
          refine g_iast (j := (1746 + 38 + 9 * k + i)) (by decide +kernel) (by omega) rfl (by omega) (by omega) (by decide) ?_
          refine g_iinc (i := 6) (b := 1) (L' := [(0, _), (1, _), (2, _), (3, _), (4, _), (5, _), (6, _)]) (by decide +kernel) rfl rfl rfl ?_
          refine g_goto (off := -45) (tgt := 47) (by decide +kernel) (by decide) ?_
          rw [zs_zrow]
          refine g_eq (ih (i + 1) _ (by push_cast; rfl) (by omega) (by omega)) ?_ rfl rfl
          rw [← zmks_s]
          have e : ∀ v : Int, v = zTab 0 i → zrow σ 190 (zu (zmks (zu (zu (zu (σ 190) (1746 + 2 + k) x) (1746 + 14 + k) y) (1746 + 26 + k) p) (1746 + 38 + 9 * k) (zTab 0) i) (1746 + 38 + 9 * k + i) v) = zrow σ 190 (zu (zmks (zu (zu (zu (σ 190) (1746 + 2 + k) x) (1746 + 14 + k) y) (1746 + 26 + k) p) (1746 + 38 + 9 * k) (zTab 0) i) (1746 + 38 + 9 * k + i) (zTab 0 i)) := fun v ev => by rw [ev]
          refine e _ ?_
          first
            | (have z : i = 1 := by omega
               subst z; rfl)
            | (have z : i = 2 := by omega
               subst z; rfl)
            | (rcases (by omega : i = 0 ∨ i = 3 ∨ i = 4 ∨ i = 5 ∨ i = 6 ∨ i = 7 ∨ i = 8) with rfl | rfl | rfl | rfl | rfl | rfl | rfl <;> rfl)
theorem c_Md_begins {G : zG} {n : Nat} {σ : zSt} {k : Nat} {x y p : Int} (hn : 220 ≤ n) (hk : k < 12) : Gm G y_Md_begins m_Md_begins 0 0 0 [vr G 189, vi (k : Int), vi x, vi y, vi p] n SH σ (zV n SH (fun σ' => σ' = zrow σ 190 (zwc (σ 190) 1746 k x y p 0 (-1) 0 (zTab 0)))) := by
  refine g_enter (L := [(0, _), (1, _), (2, _), (3, _), (4, _)]) (by decide) rfl rfl rfl (Nat.le_of_ble_eq_true rfl) (fun X => ?_)
  refine g_sipush (a := 1746) (by decide +kernel) (by decide) ?_
  refine g_istore (i := 5) (L' := [(0, _), (1, _), (2, _), (3, _), (4, _), (5, _)]) (by decide +kernel) rfl rfl ?_
  refine g_aload_n (i := 0) (by decide +kernel) rfl ?_
  refine g_getr f_Md_7 (by decide +kernel) (by omega) rfl rfl ?_
  refine g_iload (i := 5) (by decide +kernel) rfl ?_
  refine g_iconst (a := 2) (by decide +kernel) ?_
  refine g_iadd (by decide +kernel) ?_
  refine g_iload_n (i := 1) (by decide +kernel) rfl ?_
  refine g_iadd (by decide +kernel) ?_
  refine g_iload_n (i := 2) (by decide +kernel) rfl ?_
  refine g_iast (j := (1746 + 2 + k)) (by decide +kernel) (by omega) rfl (by omega) (by omega) (by decide) ?_
  refine g_aload_n (i := 0) (by decide +kernel) rfl ?_
  refine g_getr f_Md_7 (by decide +kernel) (by omega) rfl rfl ?_
  refine g_iload (i := 5) (by decide +kernel) rfl ?_
  refine g_bipush (a := 14) (by decide +kernel) (by decide) ?_
  refine g_iadd (by decide +kernel) ?_
  refine g_iload_n (i := 1) (by decide +kernel) rfl ?_
  refine g_iadd (by decide +kernel) ?_
  refine g_iload_n (i := 3) (by decide +kernel) rfl ?_
  refine g_iast (j := (1746 + 14 + k)) (by decide +kernel) (by omega) rfl (by omega) (by omega) (by decide) ?_
  refine g_aload_n (i := 0) (by decide +kernel) rfl ?_
  refine g_getr f_Md_7 (by decide +kernel) (by omega) rfl rfl ?_
  refine g_iload (i := 5) (by decide +kernel) rfl ?_
  refine g_bipush (a := 26) (by decide +kernel) (by decide) ?_
  refine g_iadd (by decide +kernel) ?_
  refine g_iload_n (i := 1) (by decide +kernel) rfl ?_
  refine g_iadd (by decide +kernel) ?_
  refine g_iload (i := 4) (by decide +kernel) rfl ?_
  refine g_iast (j := (1746 + 26 + k)) (by decide +kernel) (by omega) rfl (by omega) (by omega) (by decide) ?_
  refine g_iconst (a := 0) (by decide +kernel) ?_
  refine g_istore (i := 6) (L' := [(0, _), (1, _), (2, _), (3, _), (4, _), (5, _), (6, _)]) (by decide +kernel) rfl rfl ?_
  refine g_eq (w_Md_begins hn hk 10 0 _ rfl (by omega) (by omega)) ?_ rfl rfl
  rw [zmks_0]
  funext a
  by_cases z : a = 190
  · rw [z, zs_row, zs_row, zs_row, zrow_eq]
  · rw [zs_other z, zs_other z, zs_other z, zrow_ne z]
theorem w_Md_copyClip {G : zG} {X : zX} {n : Nat} {σ : zSt} {b f t : Nat} (hn : 220 ≤ n) (hb : b = 0 ∨ b = 1746) (hf : f < 12) (ht : t < 12)  : ∀ (m : Nat) (i : Nat) (x4 : Int), x4 = (i : Int) → i ≤ 9 → 9 < i + m → Go G X m_Md_copyClip (0, 0, 0, 0, 0) n SH (zrow σ 190 (zmks (zu (zu (zu (σ 190) (0 + 2 + t) (σ 190 (b + 2 + f))) (0 + 14 + t) (σ 190 (b + 14 + f))) (0 + 26 + t) (σ 190 (b + 26 + f))) (0 + 38 + 9 * t) (fun u => σ 190 (b + 38 + 9 * f + u)) i)) 61 [(0, vr G 189), (1, vi (b : Int)), (2, vi (f : Int)), (3, vi (t : Int)), (4, vi x4)] [] (zV n SH (fun σ' => σ' = zrow σ 190 (zwc (σ 190) 0 t (σ 190 (b + 2 + f)) (σ 190 (b + 14 + f)) (σ 190 (b + 26 + f)) (σ 190 (b + 146 + f)) (σ 190 (b + 158 + f)) (σ 190 (b + 170 + f)) (fun u => σ 190 (b + 38 + 9 * f + u))))) := by
  intro m
  induction m with
  | zero => intro i x4 e4 hi hm; exact absurd hm (by omega)
  | succ m ih =>
    intro i x4 e4 hi hm
    subst e4
    obtain ⟨R, eR⟩ : ∃ R, R = zmks (zu (zu (zu (σ 190) (0 + 2 + t) (σ 190 (b + 2 + f))) (0 + 14 + t) (σ 190 (b + 14 + f))) (0 + 26 + t) (σ 190 (b + 26 + f))) (0 + 38 + 9 * t) (fun u => σ 190 (b + 38 + 9 * f + u)) i := ⟨_, rfl⟩
    rw [← eR]
    have rd : ∀ j, (138 ≤ j ∧ j < 194 ∨ 1746 ≤ j) → j ≠ 0 + 2 + t → j ≠ 0 + 14 + t → j ≠ 0 + 26 + t → (j < 0 + 38 + 9 * t ∨ 0 + 38 + 9 * t + i ≤ j) → R j = σ 190 j := fun j _ h1 h2 h3 h7 => by rw [eR, zmks_out h7, zu_ne h3, zu_ne h2, zu_ne h1]
    have rm : i < 9 → R (b + 38 + 9 * f + i) = σ 190 (b + 38 + 9 * f + i) := fun i9 => by
      rw [eR, zmks_out (by
        by_cases e : b = 0 ∧ f = t
        · omega
        · rcases hb with hb | hb
          · have : f < t ∨ t < f := by omega
            omega
          · omega), zu_ne (by omega), zu_ne (by omega), zu_ne (by omega)]
    refine g_iload (i := 4) (by decide +kernel) rfl ?_
    refine g_bipush (a := 9) (by decide +kernel) (by decide) ?_
    refine g_icmp_ge (off := 41) (tgt := 106) (by decide +kernel) (by decide) ⟨by omega, by omega⟩ ⟨by omega, by omega⟩ (fun h65 => ?_) (fun h65 => ?_)
    · refine g_aload_n (i := 0) (by decide +kernel) rfl ?_
      refine g_getr f_Md_7 (by decide +kernel) (by omega) rfl rfl ?_
      refine g_sipush (a := 146) (by decide +kernel) (by decide) ?_
      refine g_iload_n (i := 3) (by decide +kernel) rfl ?_
      refine g_iadd (by decide +kernel) ?_
      refine g_aload_n (i := 0) (by decide +kernel) rfl ?_
      refine g_getr f_Md_7 (by decide +kernel) (by omega) rfl rfl ?_
      refine g_iload_n (i := 1) (by decide +kernel) rfl ?_
      refine g_sipush (a := 146) (by decide +kernel) (by decide) ?_
      refine g_iadd (by decide +kernel) ?_
      refine g_iload_n (i := 2) (by decide +kernel) rfl ?_
      refine g_iadd (by decide +kernel) ?_
      refine g_iald (j := (b + 146 + f)) (by decide +kernel) (by omega) rfl (by omega) (by omega) (by decide) ?_
      refine g_iast (j := (0 + 146 + t)) (by decide +kernel) (by omega) rfl (by omega) (by omega) (by decide) ?_
      refine g_aload_n (i := 0) (by decide +kernel) rfl ?_
      refine g_getr f_Md_7 (by decide +kernel) (by omega) rfl rfl ?_
      refine g_sipush (a := 158) (by decide +kernel) (by decide) ?_
      refine g_iload_n (i := 3) (by decide +kernel) rfl ?_
      refine g_iadd (by decide +kernel) ?_
      refine g_aload_n (i := 0) (by decide +kernel) rfl ?_
      refine g_getr f_Md_7 (by decide +kernel) (by omega) rfl rfl ?_
      refine g_iload_n (i := 1) (by decide +kernel) rfl ?_
      refine g_sipush (a := 158) (by decide +kernel) (by decide) ?_
      refine g_iadd (by decide +kernel) ?_
      refine g_iload_n (i := 2) (by decide +kernel) rfl ?_
      refine g_iadd (by decide +kernel) ?_
      refine g_iald (j := (b + 158 + f)) (by decide +kernel) (by omega) rfl (by omega) (by omega) (by decide) ?_
      refine g_iast (j := (0 + 158 + t)) (by decide +kernel) (by omega) rfl (by omega) (by omega) (by decide) ?_
      refine g_aload_n (i := 0) (by decide +kernel) rfl ?_
      refine g_getr f_Md_7 (by decide +kernel) (by omega) rfl rfl ?_
      refine g_sipush (a := 170) (by decide +kernel) (by decide) ?_
      refine g_iload_n (i := 3) (by decide +kernel) rfl ?_
      refine g_iadd (by decide +kernel) ?_
      refine g_aload_n (i := 0) (by decide +kernel) rfl ?_
      refine g_getr f_Md_7 (by decide +kernel) (by omega) rfl rfl ?_
      refine g_iload_n (i := 1) (by decide +kernel) rfl ?_
      refine g_sipush (a := 170) (by decide +kernel) (by decide) ?_
      refine g_iadd (by decide +kernel) ?_
      refine g_iload_n (i := 2) (by decide +kernel) rfl ?_
      refine g_iadd (by decide +kernel) ?_
      refine g_iald (j := (b + 170 + f)) (by decide +kernel) (by omega) rfl (by omega) (by omega) (by decide) ?_
      refine g_iast (j := (0 + 170 + t)) (by decide +kernel) (by omega) rfl (by omega) (by omega) (by decide) ?_
      refine g_retV (by decide +kernel) rfl ⟨by decide, by decide⟩ ?_
      obtain rfl : i = 9 := by omega
      have A1 : R (b + 146 + f) = σ 190 (b + 146 + f) := by rw [eR, zmks_out (by omega), zu_ne (by omega), zu_ne (by omega), zu_ne (by omega)]
      have A2 : R (b + 158 + f) = σ 190 (b + 158 + f) := by rw [eR, zmks_out (by omega), zu_ne (by omega), zu_ne (by omega), zu_ne (by omega)]
      have A3 : R (b + 170 + f) = σ 190 (b + 170 + f) := by rw [eR, zmks_out (by omega), zu_ne (by omega), zu_ne (by omega), zu_ne (by omega)]
      simp only [zs_zrow, zrow_eq]
      rw [zu_ne (show b + 158 + f ≠ 0 + 146 + t by omega), zu_ne (show b + 170 + f ≠ 0 + 158 + t by omega), zu_ne (show b + 170 + f ≠ 0 + 146 + t by omega), A1, A2, A3, eR]
      rfl
    · refine g_aload_n (i := 0) (by decide +kernel) rfl ?_
      refine g_getr f_Md_7 (by decide +kernel) (by omega) rfl rfl ?_
      refine g_bipush (a := 38) (by decide +kernel) (by decide) ?_
      refine g_bipush (a := 9) (by decide +kernel) (by decide) ?_
      refine g_iload_n (i := 3) (by decide +kernel) rfl ?_
      refine g_imul (by decide +kernel) ?_
      refine g_iadd (by decide +kernel) ?_
      refine g_iload (i := 4) (by decide +kernel) rfl ?_
      refine g_iadd (by decide +kernel) ?_
      refine g_aload_n (i := 0) (by decide +kernel) rfl ?_
      refine g_getr f_Md_7 (by decide +kernel) (by omega) rfl rfl ?_
      refine g_iload_n (i := 1) (by decide +kernel) rfl ?_
      refine g_bipush (a := 38) (by decide +kernel) (by decide) ?_
      refine g_iadd (by decide +kernel) ?_
      refine g_bipush (a := 9) (by decide +kernel) (by decide) ?_
      refine g_iload_n (i := 2) (by decide +kernel) rfl ?_
      refine g_imul (by decide +kernel) ?_
      refine g_iadd (by decide +kernel) ?_
      refine g_iload (i := 4) (by decide +kernel) rfl ?_
      refine g_iadd (by decide +kernel) ?_
      refine g_iald (j := (b + 38 + 9 * f + i)) (by decide +kernel) (by omega) rfl (by omega) (by omega) (by decide) ?_
      refine g_iast (j := (0 + 38 + 9 * t + i)) (by decide +kernel) (by omega) rfl (by omega) (by omega) (by decide) ?_
      refine g_iinc (i := 4) (b := 1) (L' := [(0, _), (1, _), (2, _), (3, _), (4, _)]) (by decide +kernel) rfl rfl rfl ?_
      refine g_goto (off := -42) (tgt := 61) (by decide +kernel) (by decide) ?_
      rw [zs_zrow, zrow_eq, rm (by omega)]
      refine g_eq (ih (i + 1) _ (by push_cast; rfl) (by omega) (by omega)) ?_ rfl rfl
      rw [← zmks_s, eR]
theorem c_Md_copyClip {G : zG} {n : Nat} {σ : zSt} {b f t : Nat} (hn : 220 ≤ n) (hb : b = 0 ∨ b = 1746) (hf : f < 12) (ht : t < 12)  : Gm G y_Md_copyClip m_Md_copyClip 0 0 0 [vr G 189, vi (b : Int), vi (f : Int), vi (t : Int)] n SH σ (zV n SH (fun σ' => σ' = zrow σ 190 (zwc (σ 190) 0 t (σ 190 (b + 2 + f)) (σ 190 (b + 14 + f)) (σ 190 (b + 26 + f)) (σ 190 (b + 146 + f)) (σ 190 (b + 158 + f)) (σ 190 (b + 170 + f)) (fun u => σ 190 (b + 38 + 9 * f + u))))) := by
  refine g_enter (L := [(0, _), (1, _), (2, _), (3, _)]) (by decide) rfl rfl rfl (Nat.le_of_ble_eq_true rfl) (fun X => ?_)
  refine g_aload_n (i := 0) (by decide +kernel) rfl ?_
  refine g_getr f_Md_7 (by decide +kernel) (by omega) rfl rfl ?_
  refine g_iconst (a := 2) (by decide +kernel) ?_
  refine g_iload_n (i := 3) (by decide +kernel) rfl ?_
  refine g_iadd (by decide +kernel) ?_
  refine g_aload_n (i := 0) (by decide +kernel) rfl ?_
  refine g_getr f_Md_7 (by decide +kernel) (by omega) rfl rfl ?_
  refine g_iload_n (i := 1) (by decide +kernel) rfl ?_
  refine g_iconst (a := 2) (by decide +kernel) ?_
  refine g_iadd (by decide +kernel) ?_
  refine g_iload_n (i := 2) (by decide +kernel) rfl ?_
  refine g_iadd (by decide +kernel) ?_
  refine g_iald (j := (b + 2 + f)) (by decide +kernel) (by omega) rfl (by omega) (by omega) (by decide) ?_
  refine g_iast (j := (0 + 2 + t)) (by decide +kernel) (by omega) rfl (by omega) (by omega) (by decide) ?_
  refine g_aload_n (i := 0) (by decide +kernel) rfl ?_
  refine g_getr f_Md_7 (by decide +kernel) (by omega) rfl rfl ?_
  refine g_bipush (a := 14) (by decide +kernel) (by decide) ?_
  refine g_iload_n (i := 3) (by decide +kernel) rfl ?_
  refine g_iadd (by decide +kernel) ?_
  refine g_aload_n (i := 0) (by decide +kernel) rfl ?_
  refine g_getr f_Md_7 (by decide +kernel) (by omega) rfl rfl ?_
  refine g_iload_n (i := 1) (by decide +kernel) rfl ?_
  refine g_bipush (a := 14) (by decide +kernel) (by decide) ?_
  refine g_iadd (by decide +kernel) ?_
  refine g_iload_n (i := 2) (by decide +kernel) rfl ?_
  refine g_iadd (by decide +kernel) ?_
  refine g_iald (j := (b + 14 + f)) (by decide +kernel) (by omega) rfl (by omega) (by omega) (by decide) ?_
  refine g_iast (j := (0 + 14 + t)) (by decide +kernel) (by omega) rfl (by omega) (by omega) (by decide) ?_
  refine g_aload_n (i := 0) (by decide +kernel) rfl ?_
  refine g_getr f_Md_7 (by decide +kernel) (by omega) rfl rfl ?_
  refine g_bipush (a := 26) (by decide +kernel) (by decide) ?_
  refine g_iload_n (i := 3) (by decide +kernel) rfl ?_
  refine g_iadd (by decide +kernel) ?_
  refine g_aload_n (i := 0) (by decide +kernel) rfl ?_
  refine g_getr f_Md_7 (by decide +kernel) (by omega) rfl rfl ?_
  refine g_iload_n (i := 1) (by decide +kernel) rfl ?_
  refine g_bipush (a := 26) (by decide +kernel) (by decide) ?_
  refine g_iadd (by decide +kernel) ?_
  refine g_iload_n (i := 2) (by decide +kernel) rfl ?_
  refine g_iadd (by decide +kernel) ?_
  refine g_iald (j := (b + 26 + f)) (by decide +kernel) (by omega) rfl (by omega) (by omega) (by decide) ?_
  refine g_iast (j := (0 + 26 + t)) (by decide +kernel) (by omega) rfl (by omega) (by omega) (by decide) ?_
  refine g_iconst (a := 0) (by decide +kernel) ?_
  refine g_istore (i := 4) (L' := [(0, _), (1, _), (2, _), (3, _), (4, _)]) (by decide +kernel) rfl rfl ?_
  refine g_eq (w_Md_copyClip hn hb hf ht 10 0 _ rfl (by omega) (by omega)) ?_ rfl rfl
  rw [zmks_0]
  have e1 : (zs σ 190 (0 + 2 + t) (σ 190 (b + 2 + f))) 190 (b + 14 + f) = σ 190 (b + 14 + f) := zs_ne (by omega)
  rw [e1]
  have e2 : (zs (zs σ 190 (0 + 2 + t) (σ 190 (b + 2 + f))) 190 (0 + 14 + t) (σ 190 (b + 14 + f))) 190 (b + 26 + f) = σ 190 (b + 26 + f) := by rw [zs_ne (by omega), zs_ne (by omega)]
  rw [e2]
  funext a
  by_cases z : a = 190
  · rw [z, zs_row, zs_row, zs_row, zrow_eq]
  · rw [zs_other z, zs_other z, zs_other z, zrow_ne z]
theorem w_Md_isWithin {G : zG} {X : zX} {n : Nat} {σ : zSt} {S : zSt} {d r : Nat → Nat} {k q : Nat} (hn : 220 ≤ n) (hS : zMc σ S) (hv : zVal S d r) (hq : q < 12) {x1 : Int}  : ∀ (m : Nat) (x3 : Int), (-1 ≤ x3 ∧ x3 < zN S) → ((x3 = -1 ∧ zwi (S 2) q 12 k = false) ∨ (0 ≤ x3 ∧ zwi (S 2) q 12 k = zwi (S 2) q 12 x3.toNat)) → x3 < (m : Int) - 1 → Go G X m_Md_isWithin (1, 0, 0, 0, 0) n SH σ 2 [(0, vr G 189), (1, vi x1), (2, vi (q : Int)), (3, vi x3)] [] (zI n SH (fun a σ' => a = (if zwi (S 2) q 12 k = true then 1 else 0) ∧ σ' = σ)) := by
  intro m
  induction m with
  | zero => intro x3 hx hw hm; exact absurd hm (by omega)
  | succ m ih =>
    intro x3 hx hw hm
    have hN := hS.N
    have hz : zN S = (S 0 0).toNat := rfl
    refine g_iload_n (i := 3) (by decide +kernel) rfl ?_
    refine g_if_lt (off := 19) (tgt := 22) (by decide +kernel) (by decide) ⟨by omega, by omega⟩ (fun h3 => ?_) (fun h3 => ?_)
    · refine g_iconst (a := 0) (by decide +kernel) ?_
      refine g_retI (by decide +kernel) rfl (Or.inr ⟨rfl, by omega⟩) ⟨by decide, by decide⟩ ?_
      refine ⟨?_, rfl⟩
      rcases hw with hw | hw
      · rw [if_neg (by rw [hw.2]; decide)]
      · omega
    · obtain ⟨j, rfl⟩ := Int.eq_ofNat_of_zero_le h3
      have jN : j < zN S := by omega
      have w2 : zwi (S 2) q 12 k = zwi (S 2) q 12 j := by
        rcases hw with hw | hw
        · omega
        · have := hw.2; rw [Int.toNat_natCast] at this; exact this
      have st := zwi_s (S 2) q 11 j
      have aj := hS.ar jN
      have tj := hv.2.1 j jN
      refine g_iload_n (i := 3) (by decide +kernel) rfl ?_
      refine g_iload_n (i := 2) (by decide +kernel) rfl ?_
      refine g_icmp_ne (off := 5) (tgt := 13) (by decide +kernel) (by decide) ⟨by omega, by omega⟩ ⟨by omega, by omega⟩ (fun h8 => ?_) (fun h8 => ?_)
      · refine g_aload_n (i := 0) (by decide +kernel) rfl ?_
        refine g_iload_n (i := 3) (by decide +kernel) rfl ?_
        refine g_cVI (st := _) (c_Md_around (k := j) hn (by omega)) k_Md_around l_Md_169 (by decide +kernel) (by omega) rfl rfl rfl rfl (Nat.le_of_ble_eq_true rfl) (by decide) ⟨by decide, by decide⟩ ?_
        rintro a9 σ9 ⟨ea9, hσ9⟩
        obtain rfl := hσ9.symm
        rw [aj] at ea9
        subst ea9
        refine g_istore_n (i := 3) (L' := [(0, _), (1, _), (2, _), (3, _)]) (by decide +kernel) rfl rfl ?_
        refine g_goto (off := -17) (tgt := 2) (by decide +kernel) (by decide) ?_
        have ne : ¬ j = q := by omega
        rw [if_neg ne] at st
        refine ih _ (by omega) ?_ (by omega)
        by_cases z : S 2 j = -1
        · rw [if_pos z] at st
          exact Or.inl ⟨z, by rw [w2]; exact st⟩
        · rw [if_neg z, zwi_enough (N := zN S) (fun k hk => (hv.2.1 k hk).1) (fun k hk => (hv.2.1 k hk).2.1) 11 12 (S 2 j).toNat (by omega) (by omega) (by omega)] at st
          exact Or.inr ⟨by omega, by rw [w2]; exact st⟩
      · refine g_iconst (a := 1) (by decide +kernel) ?_
        refine g_retI (by decide +kernel) rfl (Or.inr ⟨rfl, by omega⟩) ⟨by decide, by decide⟩ ?_
        have e : j = q := by omega
        rw [if_pos e] at st
        exact ⟨by rw [if_pos (by rw [w2]; exact st)], rfl⟩
theorem c_Md_isWithin {G : zG} {n : Nat} {σ : zSt} {S : zSt} {d r : Nat → Nat} {k q : Nat} (hn : 220 ≤ n) (hS : zMc σ S) (hv : zVal S d r) (hk : k < zN S) (hq : q < 12) : Gm G y_Md_isWithin m_Md_isWithin 1 0 0 [vr G 189, vi (k : Int), vi (q : Int)] n SH σ (zI n SH (fun a σ' => a = (if zwi (S 2) q 12 k = true then 1 else 0) ∧ σ' = σ)) := by
  refine g_enter (L := [(0, _), (1, _), (2, _)]) (by decide) rfl rfl rfl (Nat.le_of_ble_eq_true rfl) (fun X => ?_)
  refine g_iload_n (i := 1) (by decide +kernel) rfl ?_
  refine g_istore_n (i := 3) (L' := [(0, _), (1, _), (2, _), (3, _)]) (by decide +kernel) rfl rfl ?_
  exact w_Md_isWithin (k := k) (q := q) hn hS hv hq (k + 2) _ (by omega) (Or.inr ⟨by omega, by rw [Int.toNat_natCast]⟩) (by omega)
theorem w_Md_numberBehind {G : zG} {X : zX} {n : Nat} {σ : zSt} {S : zSt} {d r : Nat → Nat} {k q : Nat} (hn : 220 ≤ n) (hS : zMc σ S) (hv : zVal S d r) (hk : k < zN S) (hq : q < 12)  : ∀ (m : Nat) (i : Nat) (x3 x4 : Int), x4 = (i : Int) → x3 = (zcnt (zKe S q) i : Int) → i ≤ k → k < i + m → Go G X m_Md_numberBehind (2, 0, 0, 0, 0) n SH σ 5 [(0, vr G 189), (1, vi (k : Int)), (2, vi (q : Int)), (3, vi x3), (4, vi x4)] [] (zI n SH (fun a σ' => a = (zcnt (zKe S q) k : Int) ∧ σ' = σ)) := by
  intro m
  induction m with
  | zero => intro i x3 x4 e4 e3 hi hm; exact absurd hm (by omega)
  | succ m ih =>
    intro i x3 x4 e4 e3 hi hm
    have hN := hS.N
    have hz : zN S = (S 0 0).toNat := rfl
    subst e4
    have zl := zcnt_le (zKe S q) i
    refine g_iload (i := 4) (by decide +kernel) rfl ?_
    refine g_iload_n (i := 1) (by decide +kernel) rfl ?_
    refine g_icmp_ge (off := 27) (tgt := 35) (by decide +kernel) (by decide) ⟨by omega, by omega⟩ ⟨by omega, by omega⟩ (fun h8 => ?_) (fun h8 => ?_)
    · refine g_iload_n (i := 3) (by decide +kernel) rfl ?_
      refine g_retI (by decide +kernel) rfl (Or.inl rfl) ⟨by decide, by decide⟩ ?_
      exact ⟨by rw [e3, show i = k by omega], rfl⟩
    · refine g_iload_n (i := 3) (by decide +kernel) rfl ?_
      refine g_aload_n (i := 0) (by decide +kernel) rfl ?_
      refine g_iload (i := 4) (by decide +kernel) rfl ?_
      refine g_iload_n (i := 2) (by decide +kernel) rfl ?_
      refine g_cVI (st := _) (c_Md_isWithin (k := i) (q := q) hn hS hv (by omega) hq) k_Md_isWithin l_Md_326 (by decide +kernel) (by omega) rfl rfl rfl rfl (Nat.le_of_ble_eq_true rfl) (by decide) ⟨by decide, by decide⟩ ?_
      rintro a9 σ9 ⟨ea9, hσ9⟩
      obtain rfl := hσ9.symm
      subst ea9
      refine g_if_eq (off := 7) (tgt := 26) (by decide +kernel) (by decide) zbr (fun h19 => ?_) (fun h19 => ?_)
      · have h19 := zb0.mp h19
        refine g_iconst (a := 1) (by decide +kernel) ?_
        refine g_iadd (by decide +kernel) ?_
        refine g_istore_n (i := 3) (L' := [(0, _), (1, _), (2, _), (3, _), (4, _)]) (by decide +kernel) rfl rfl ?_
        refine g_iinc (i := 4) (b := 1) (L' := [(0, _), (1, _), (2, _), (3, _), (4, _)]) (by decide +kernel) rfl rfl rfl ?_
        refine g_goto (off := -27) (tgt := 5) (by decide +kernel) (by decide) ?_
        first
          | (have z : zwi (S 2) q 12 i = true := h19
             exact ih (i + 1) _ _ (by push_cast; rfl) (by rw [zcnt_f (by unfold zKe; rw [z]; rfl)]; omega) (by omega) (by omega))
          | (have z : ¬ zwi (S 2) q 12 i = true := h19
             exact ih (i + 1) _ _ (by push_cast; rfl) (by rw [zcnt_t (by unfold zKe; rw [Bool.eq_false_iff.mpr z]; rfl)]; push_cast; omega) (by omega) (by omega))
      · have h19 := zb1.mp h19
        refine g_iconst (a := 0) (by decide +kernel) ?_
        refine g_goto (off := 4) (tgt := 27) (by decide +kernel) (by decide) ?_
        refine g_iadd (by decide +kernel) ?_
        refine g_istore_n (i := 3) (L' := [(0, _), (1, _), (2, _), (3, _), (4, _)]) (by decide +kernel) rfl rfl ?_
        refine g_iinc (i := 4) (b := 1) (L' := [(0, _), (1, _), (2, _), (3, _), (4, _)]) (by decide +kernel) rfl rfl rfl ?_
        refine g_goto (off := -27) (tgt := 5) (by decide +kernel) (by decide) ?_
        first
          | (have z : zwi (S 2) q 12 i = true := h19
             exact ih (i + 1) _ _ (by push_cast; rfl) (by rw [zcnt_f (by unfold zKe; rw [z]; rfl)]; omega) (by omega) (by omega))
          | (have z : ¬ zwi (S 2) q 12 i = true := h19
             exact ih (i + 1) _ _ (by push_cast; rfl) (by rw [zcnt_t (by unfold zKe; rw [Bool.eq_false_iff.mpr z]; rfl)]; push_cast; omega) (by omega) (by omega))
theorem c_Md_numberBehind {G : zG} {n : Nat} {σ : zSt} {S : zSt} {d r : Nat → Nat} {k q : Nat} (hn : 220 ≤ n) (hS : zMc σ S) (hv : zVal S d r) (hk : k < zN S) (hq : q < 12)  : Gm G y_Md_numberBehind m_Md_numberBehind 2 0 0 [vr G 189, vi (k : Int), vi (q : Int)] n SH σ (zI n SH (fun a σ' => a = (zcnt (zKe S q) k : Int) ∧ σ' = σ)) := by
  refine g_enter (L := [(0, _), (1, _), (2, _)]) (by decide) rfl rfl rfl (Nat.le_of_ble_eq_true rfl) (fun X => ?_)
  refine g_iconst (a := 0) (by decide +kernel) ?_
  refine g_istore_n (i := 3) (L' := [(0, _), (1, _), (2, _), (3, _)]) (by decide +kernel) rfl rfl ?_
  refine g_iconst (a := 0) (by decide +kernel) ?_
  refine g_istore (i := 4) (L' := [(0, _), (1, _), (2, _), (3, _), (4, _)]) (by decide +kernel) rfl rfl ?_
  exact w_Md_numberBehind hn hS hv hk hq (k + 1) 0 _ _ rfl rfl (by omega) (by omega)
theorem w_Md_depthNow {G : zG} {X : zX} {n : Nat} {σ : zSt} {S : zSt} {d r : Nat → Nat} {k : Nat} {x1 : Int} (hn : 220 ≤ n) (hS : zMc σ S) (hv : zVal S d r)  : ∀ (m : Nat) (i : Nat) (x2 x3 : Int), x2 = (i : Int) → (-1 ≤ x3 ∧ x3 < zN S) → zdep (S 2) 12 (S 2 k) = i + zdep (S 2) 12 x3 → x3 < (m : Int) - 1 → Go G X m_Md_depthNow (1, 0, 0, 0, 0) n SH σ 8 [(0, vr G 189), (1, vi x1), (2, vi x2), (3, vi x3)] [] (zI n SH (fun a σ' => a = (zdep (S 2) 12 (S 2 k) : Int) ∧ σ' = σ)) := by
  intro m
  induction m with
  | zero => intro i x2 x3 e2 hx hw hm; exact absurd hm (by omega)
  | succ m ih =>
    intro i x2 x3 e2 hx hw hm
    have hN := hS.N
    have hz : zN S = (S 0 0).toNat := rfl
    subst e2
    refine g_iload_n (i := 3) (by decide +kernel) rfl ?_
    refine g_if_lt (off := 15) (tgt := 24) (by decide +kernel) (by decide) ⟨by omega, by omega⟩ (fun h9 => ?_) (fun h9 => ?_)
    · refine g_iload_n (i := 2) (by decide +kernel) rfl ?_
      refine g_retI (by decide +kernel) rfl (Or.inl rfl) ⟨by decide, by decide⟩ ?_
      refine ⟨?_, rfl⟩
      have e : x3 = -1 := by omega
      rw [e] at hw
      have z : zdep (S 2) 12 (-1) = 0 := rfl
      omega
    · obtain ⟨j, rfl⟩ := Int.eq_ofNat_of_zero_le h9
      have jN : j < zN S := by omega
      have aj := hS.ar jN
      have tj := hv.2.1 j jN
      refine g_iinc (i := 2) (b := 1) (L' := [(0, _), (1, _), (2, _), (3, _)]) (by decide +kernel) rfl rfl rfl ?_
      refine g_aload_n (i := 0) (by decide +kernel) rfl ?_
      refine g_iload_n (i := 3) (by decide +kernel) rfl ?_
      refine g_cVI (st := _) (c_Md_around (k := j) hn (by omega)) k_Md_around l_Md_169 (by decide +kernel) (by omega) rfl rfl rfl rfl (Nat.le_of_ble_eq_true rfl) (by decide) ⟨by decide, by decide⟩ ?_
      rintro a9 σ9 ⟨ea9, hσ9⟩
      obtain rfl := hσ9.symm
      rw [aj] at ea9
      subst ea9
      refine g_istore_n (i := 3) (L' := [(0, _), (1, _), (2, _), (3, _)]) (by decide +kernel) rfl rfl ?_
      refine g_goto (off := -13) (tgt := 8) (by decide +kernel) (by decide) ?_
      refine ih (i + 1) _ _ (by push_cast; rfl) (by omega) ?_ (by omega)
      have st : zdep (S 2) 12 (j : Int) = zdep (S 2) 12 (S 2 j) + 1 := by
        by_cases z : S 2 j = -1
        · have e : zdep (S 2) 12 (j : Int) = zdep (S 2) 11 (S 2 j) + 1 := by show (if (j : Int) = -1 then 0 else zdep (S 2) 11 (S 2 j) + 1) = _; rw [if_neg (by omega)]
          rw [e, z]; rfl
        · have a := zdep_d hv 12 j jN (by omega)
          have b := zdep_d hv 12 (S 2 j).toNat (by omega) (by omega)
          rw [show (((S 2 j).toNat : Nat) : Int) = S 2 j by omega] at b
          have c := (hv.1.2 (S 2 j).toNat (by omega)).2 j jN (by omega)
          omega
      omega
theorem c_Md_depthNow {G : zG} {n : Nat} {σ : zSt} {S : zSt} {d r : Nat → Nat} {k : Nat} (hn : 220 ≤ n) (hS : zMc σ S) (hv : zVal S d r) (hk : k < zN S) : Gm G y_Md_depthNow m_Md_depthNow 1 0 0 [vr G 189, vi (k : Int)] n SH σ (zI n SH (fun a σ' => a = (zdep (S 2) 12 (S 2 k) : Int) ∧ σ' = σ)) := by
  refine g_enter (L := [(0, _), (1, _)]) (by decide) rfl rfl rfl (Nat.le_of_ble_eq_true rfl) (fun X => ?_)
  have hN := hS.N
  have hz : zN S = (S 0 0).toNat := rfl
  have ak := hS.ar hk
  have tk := hv.2.1 k hk
  refine g_iconst (a := 0) (by decide +kernel) ?_
  refine g_istore_n (i := 2) (L' := [(0, _), (1, _), (2, _)]) (by decide +kernel) rfl rfl ?_
  refine g_aload_n (i := 0) (by decide +kernel) rfl ?_
  refine g_iload_n (i := 1) (by decide +kernel) rfl ?_
  refine g_cVI (st := _) (c_Md_around (k := k) hn (by omega)) k_Md_around l_Md_169 (by decide +kernel) (by omega) rfl rfl rfl rfl (Nat.le_of_ble_eq_true rfl) (by decide) ⟨by decide, by decide⟩ ?_
  rintro a9 σ9 ⟨ea9, hσ9⟩
  obtain rfl := hσ9.symm
  rw [ak] at ea9
  subst ea9
  refine g_istore_n (i := 3) (L' := [(0, _), (1, _), (2, _), (3, _)]) (by decide +kernel) rfl rfl ?_
  exact w_Md_depthNow (k := k) hn hS hv (k + 2) 0 _ _ rfl (by omega) (by omega) (by omega)
