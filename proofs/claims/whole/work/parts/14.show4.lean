/-- a new clip q: the row of its marks -/
def zmk (f : Nat → Int) (q w : Nat) : Nat → Int := fun j => if 9 * q ≤ j ∧ j < 9 * q + w then zTab 0 (j - 9 * q) else f j
theorem zmk_0 (f : Nat → Int) (q : Nat) : zmk f q 0 = f := by
  funext j
  exact if_neg (by omega)
theorem zmk_s (f : Nat → Int) (q w : Nat) : zu (zmk f q w) (9 * q + w) (zTab 0 w) = zmk f q (w + 1) := by
  funext j
  unfold zu zmk
  by_cases h : j = 9 * q + w
  · subst h
    rw [if_pos rfl, if_pos (by omega), show 9 * q + w - 9 * q = w by omega]
  · rw [if_neg h]
    by_cases h2 : 9 * q ≤ j ∧ j < 9 * q + w
    · rw [if_pos h2, if_pos (by omega)]
    · rw [if_neg h2, if_neg (by omega)]
/-- a Show with one clip more -/
def zApp (σ : zSt) (b : Nat) (x y p : Int) : zSt := zrow (zs (zs (zs (zs (zs (zs (zs σ b 0 (σ b 0 + 1)) (b + 1) (σ b 0).toNat x) (b + 2) (σ b 0).toNat y) (b + 3) (σ b 0).toNat p) (b + 4) (σ b 0).toNat 0) (b + 5) (σ b 0).toNat (-1)) (b + 6) (σ b 0).toNat 0) (b + 7) (zmk (σ (b + 7)) (σ b 0).toNat 9)
theorem w_Sh_append {G : zG} {X : zX} {n : Nat} {τ : zSt} {b q : Nat} {x y p : Int} (hn : 189 ≤ n) (hS : zSw SH b) (hq : q < 12) {f : Nat → Int} : ∀ (m : Nat) (i : Nat) (x5 : Int), x5 = (i : Int) → i ≤ 9 → 9 < i + m → Go G X m_Sh_append (2, 0, 0, 0, 0) n SH (zrow τ (b + 7) (zmk f q i)) 64 [(0, vr G b), (1, vi x), (2, vi y), (3, vi q), (4, vi p), (5, vi x5)] [] (zI n SH (fun a σ' => a = (q : Int) ∧ σ' = zrow τ (b + 7) (zmk f q 9))) := by
  intro m
  induction m with
  | zero => intro i x5 e5 hi hm; exact absurd hm (by omega)
  | succ m ih =>
    intro i x5 e5 hi hm
    have hb := hS.1
    subst e5
    refine g_iload (i := 5) (by decide +kernel) rfl ?_
    refine g_bipush (a := 9) (by decide +kernel) (by decide) ?_
    refine g_icmp_ge (off := 22) (tgt := 90) (by decide +kernel) (by decide) ⟨by omega, by omega⟩ ⟨by omega, by omega⟩ (fun h68 => ?_) (fun h68 => ?_)
    · refine g_iload_n (i := 3) (by decide +kernel) rfl ?_
      refine g_retI (by decide +kernel) rfl (Or.inl rfl) ⟨by decide, by decide⟩ ?_
      exact ⟨rfl, by rw [show i = 9 by omega]⟩
    · refine g_aload_n (i := 0) (by decide +kernel) rfl ?_
      refine g_iload_n (i := 3) (by decide +kernel) rfl ?_
      refine g_iload (i := 5) (by decide +kernel) rfl ?_
      refine g_getsN (x := 73) 0 (by decide) (by decide +kernel) (by decide) ?_
      refine g_iload (i := 5) (by decide +kernel) rfl ?_
      refine g_tald 0 (by decide) (j := i) (by decide +kernel) rfl (by show _ < 9; omega) ?_
      refine g_cVV (st := []) (c_Sh_putMark (k := q) (w := i) hn hS hq (by omega)) k_Sh_putMark l_Sh_76 (by decide +kernel) (by omega) hS.a0 rfl rfl rfl (Nat.le_of_ble_eq_true rfl) (by decide) ⟨by decide, by decide⟩ ?_
      rintro σ1 hσ
      rw [zs_zrow, zmk_s] at hσ
      obtain rfl := hσ.symm
      refine g_iinc (i := 5) (b := 1) (L' := [(0, _), (1, _), (2, _), (3, _), (4, _), (5, _)]) (by decide +kernel) rfl rfl rfl ?_
      refine g_goto (off := -23) (tgt := 64) (by decide +kernel) (by decide) ?_
      exact ih (i + 1) _ (by omega) (by omega) (by omega)
theorem Go.mono {G : zG} {X : zX} {M : zM} {κ : zK} {n : Nat} {sh : Nat → zSh} {σ : zSt} {pc : Nat} {L : List (Nat × Value)} {st : List Value} {post post' : zPost} (h : Go G X M κ n sh σ pc L st post) (hp : ∀ r n' sh' σ', post r n' sh' σ' → post' r n' sh' σ') : Go G X M κ n sh σ pc L st post' := fun C H locs ls h1 h2 h3 h4 T hT Xs => by
  obtain ⟨t, a1, o, b1, b2, ⟨⟨r, n', sh', σ', e1, e2, e3⟩, e4⟩, e5⟩ := h C H locs ls h1 h2 h3 h4 T hT Xs
  exact ⟨t, a1, o, b1, b2, ⟨⟨r, n', sh', σ', e1, hp _ _ _ _ e2, e3⟩, e4⟩, e5⟩
theorem zrow_same {σ : zSt} {a : Nat} {f : Nat → Int} (h : σ a = f) : zrow σ a f = σ := by rw [← h]; exact zrow_id σ a
theorem c_Sh_append {G : zG} {n : Nat} {σ : zSt} {b : Nat} {x y : Int} (hn : 189 ≤ n) (hS : zSw SH b) (hg : zGood σ b) (hc12 : σ b 0 < 12) (hy : -1 ≤ y ∧ y ≤ 11) : Gm G y_Sh_append m_Sh_append 2 0 0 [vr G b, vi x, vi y] n SH σ (zI n SH (fun a σ' => a = σ b 0 ∧ σ' = zApp σ b x y (if y = -1 then 0 else (zcnt (fun j => decide (σ (b + 2) j = y)) (σ b 0).toNat : Int)))) := by
  refine g_enter (L := [(0, _), (1, _), (2, _)]) (by decide) rfl rfl rfl (Nat.le_of_ble_eq_true rfl) (fun X => ?_)
  have hb := hS.1
  have hc := hg.1
  have J19 : Go G X m_Sh_append (2, 0, 0, 0, 0) n SH σ 19 [(0, vr G b), (1, vi x), (2, vi y), (3, vi (σ b 0))] [vi (if y = -1 then 0 else (zcnt (fun j => decide (σ (b + 2) j = y)) (σ b 0).toNat : Int))] (zI n SH (fun a σ' => a = σ b 0 ∧ σ' = zApp σ b x y (if y = -1 then 0 else (zcnt (fun j => decide (σ (b + 2) j = y)) (σ b 0).toNat : Int)))) := by
    refine g_istore (i := 4) (L' := [(0, _), (1, _), (2, _), (3, _), (4, _)]) (by decide +kernel) rfl rfl ?_
    refine g_aload_n (i := 0) (by decide +kernel) rfl ?_
    refine g_dup (by decide +kernel) rfl ?_
    refine g_geti f_Sh_39 (by decide +kernel) (by omega) hS.a0 rfl ?_
    refine g_iconst (a := 1) (by decide +kernel) ?_
    refine g_iadd (by decide +kernel) ?_
    refine g_puti f_Sh_39 (by decide +kernel) (by omega) hS.a0 rfl ?_
    refine g_aload_n (i := 0) (by decide +kernel) rfl ?_
    refine g_getr f_Sh_9 (by decide +kernel) (by omega) hS.a0 rfl ?_
    refine g_iload_n (i := 3) (by decide +kernel) rfl ?_
    refine g_iload_n (i := 1) (by decide +kernel) rfl ?_
    refine g_iast (j := (σ b 0).toNat) (by decide +kernel) (by omega) hS.a1 (by omega) (by omega) (by decide) ?_
    refine g_aload_n (i := 0) (by decide +kernel) rfl ?_
    refine g_getr f_Sh_15 (by decide +kernel) (by omega) hS.a0 rfl ?_
    refine g_iload_n (i := 3) (by decide +kernel) rfl ?_
    refine g_iload_n (i := 2) (by decide +kernel) rfl ?_
    refine g_iast (j := (σ b 0).toNat) (by decide +kernel) (by omega) hS.a2 (by omega) (by omega) (by decide) ?_
    refine g_aload_n (i := 0) (by decide +kernel) rfl ?_
    refine g_getr f_Sh_18 (by decide +kernel) (by omega) hS.a0 rfl ?_
    refine g_iload_n (i := 3) (by decide +kernel) rfl ?_
    refine g_iload (i := 4) (by decide +kernel) rfl ?_
    refine g_iast (j := (σ b 0).toNat) (by decide +kernel) (by omega) hS.a3 (by omega) (by omega) (by decide) ?_
    refine g_aload_n (i := 0) (by decide +kernel) rfl ?_
    refine g_iload_n (i := 3) (by decide +kernel) rfl ?_
    refine g_iconst (a := 0) (by decide +kernel) ?_
    refine g_iconst (a := -1) (by decide +kernel) ?_
    refine g_iconst (a := 0) (by decide +kernel) ?_
    refine g_eq (st' := [vi 0, vi (-1), vi 0, vi (((σ b 0).toNat : Nat) : Int), vr G b]) ?_ rfl rfl (by rw [show (((σ b 0).toNat : Nat) : Int) = σ b 0 by omega])
    refine g_cVV (st := []) (c_Sh_putStart hn hS (by omega)) k_Sh_putStart l_Sh_69 (by decide +kernel) (by omega) hS.a0 rfl rfl rfl (Nat.le_of_ble_eq_true rfl) (by decide) ⟨by decide, by decide⟩ ?_
    rintro σ1 hσ
    obtain rfl := hσ.symm
    refine g_iconst (a := 0) (by decide +kernel) ?_
    refine g_istore (i := 5) (L' := [(0, _), (1, _), (2, _), (3, _), (4, _), (5, _)]) (by decide +kernel) rfl rfl ?_
    have w := w_Sh_append (G := G) (X := X) (τ := zs (zs (zs (zs (zs (zs (zs σ b 0 (σ b 0 + 1)) (b + 1) (σ b 0).toNat x) (b + 2) (σ b 0).toNat y) (b + 3) (σ b 0).toNat (if y = -1 then 0 else (zcnt (fun j => decide (σ (b + 2) j = y)) (σ b 0).toNat : Int))) (b + 4) (σ b 0).toNat 0) (b + 5) (σ b 0).toNat (-1)) (b + 6) (σ b 0).toNat 0) (x := x) (y := y) (p := (if y = -1 then 0 else (zcnt (fun j => decide (σ (b + 2) j = y)) (σ b 0).toNat : Int))) (q := (σ b 0).toNat) (f := σ (b + 7)) hn hS (by omega) 10 0 0 rfl (by omega) (by omega)
    rw [zmk_0, zrow_same (show (zs (zs (zs (zs (zs (zs (zs σ b 0 (σ b 0 + 1)) (b + 1) (σ b 0).toNat x) (b + 2) (σ b 0).toNat y) (b + 3) (σ b 0).toNat (if y = -1 then 0 else (zcnt (fun j => decide (σ (b + 2) j = y)) (σ b 0).toNat : Int))) (b + 4) (σ b 0).toNat 0) (b + 5) (σ b 0).toNat (-1)) (b + 6) (σ b 0).toNat 0) (b + 7) = σ (b + 7) by simp [zs_app])] at w
    refine Go.mono (g_eq w rfl (by rw [show (((σ b 0).toNat : Nat) : Int) = σ b 0 by omega]) rfl) ?_
    rintro r n' sh' σ' ⟨⟨a, rfl, e1, e2⟩, rfl, rfl⟩
    exact ⟨⟨a, rfl, by omega, e2⟩, rfl, rfl⟩
  refine g_aload_n (i := 0) (by decide +kernel) rfl ?_
  refine g_geti f_Sh_39 (by decide +kernel) (by omega) hS.a0 rfl ?_
  refine g_istore_n (i := 3) (L' := [(0, _), (1, _), (2, _), (3, _)]) (by decide +kernel) rfl rfl ?_
  refine g_iload_n (i := 2) (by decide +kernel) rfl ?_
  refine g_iconst (a := -1) (by decide +kernel) ?_
  refine g_icmp_ne (off := 7) (tgt := 14) (by decide +kernel) (by decide) ⟨by omega, by omega⟩ ⟨by omega, by omega⟩ (fun h7 => ?_) (fun h7 => ?_)
  · refine g_aload_n (i := 0) (by decide +kernel) rfl ?_
    refine g_iload_n (i := 2) (by decide +kernel) rfl ?_
    refine g_cVI (st := []) (c_Sh_howManyIn (k := y) hn hS hg ⟨by omega, by omega⟩) k_Sh_howManyIn l_Sh_66 (by decide +kernel) (by omega) hS.a0 rfl rfl rfl (Nat.le_of_ble_eq_true rfl) (by decide) ⟨by decide, by decide⟩ ?_
    rintro a σ1 ⟨rfl, hσ⟩
    obtain rfl := hσ.symm
    exact g_eq J19 rfl rfl (by first | rw [if_pos h7] | rw [if_neg h7])
  · refine g_iconst (a := 0) (by decide +kernel) ?_
    refine g_goto (off := 8) (tgt := 19) (by decide +kernel) (by decide) ?_
    exact g_eq J19 rfl rfl (by first | rw [if_pos h7] | rw [if_neg h7])
theorem zu_app {α : Type} (f : Nat → α) (k : Nat) (v : α) (j : Nat) : zu f k v j = if j = k then v else f j := rfl
/-- a press less: those behind it close up -/
def zDropP (σ σ' : zSt) (b i : Nat) : Prop := σ' b = zu (σ b) 8 (σ b 8 - 1) ∧ (∀ j, j < i → σ' (b + 8) j = σ (b + 8) j ∧ σ' (b + 9) j = σ (b + 9) j) ∧ (∀ j : Nat, i ≤ j → (j : Int) < σ b 8 - 1 → σ' (b + 8) j = σ (b + 8) (j + 1) ∧ σ' (b + 9) j = σ (b + 9) (j + 1)) ∧ (∀ j : Nat, σ b 8 - 1 ≤ j → σ' (b + 8) j = σ (b + 8) j ∧ σ' (b + 9) j = σ (b + 9) j) ∧ ∀ a, a ≠ b → a ≠ b + 8 → a ≠ b + 9 → σ' a = σ a
theorem w_Sh_dropPress {G : zG} {X : zX} {n : Nat} {σ : zSt} {b k : Nat} {x1 : Int} (hn : 189 ≤ n) (hS : zSw SH b) (hg : zGood σ b) : ∀ (m : Nat) (i : Nat) (x2 : Int) (τ : zSt), x2 = (i : Int) → τ b 8 = σ b 8 - 1 → (∀ j, j < i → τ (b + 8) j = (if j < k then σ (b + 8) j else σ (b + 8) (j + 1)) ∧ τ (b + 9) j = (if j < k then σ (b + 9) j else σ (b + 9) (j + 1))) → (∀ j, i ≤ j → τ (b + 8) j = σ (b + 8) j ∧ τ (b + 9) j = σ (b + 9) j) → (∀ a, a ≠ b → a ≠ b + 8 → a ≠ b + 9 → τ a = σ a) → τ b = zu (σ b) 8 (σ b 8 - 1) → k ≤ i → (i : Int) ≤ σ b 8 - 1 → σ b 8 - 1 < (i : Int) + m → Go G X m_Sh_dropPress (0, 0, 0, 0, 0) n SH τ 12 [(0, vr G b), (1, vi x1), (2, vi x2)] [] (zV n SH (fun σ' => zDropP σ σ' b k)) := by
  intro m
  induction m with
  | zero => intro i x2 τ e2 t0 t1 t2 t3 t4 hki hi hm; exact absurd hm (by omega)
  | succ m ih =>
    intro i x2 τ e2 t0 t1 t2 t3 t4 hki hi hm
    have hb := hS.1
    have hc := hg.1
    subst e2
    refine g_iload_n (i := 2) (by decide +kernel) rfl ?_
    refine g_aload_n (i := 0) (by decide +kernel) rfl ?_
    refine g_geti f_Sh_49 (by decide +kernel) (by omega) hS.a0 rfl ?_
    refine g_icmp_ge (off := 37) (tgt := 54) (by decide +kernel) (by decide) ⟨by omega, by omega⟩ ⟨by omega, by omega⟩ (fun h17 => ?_) (fun h17 => ?_)
    · refine g_retV (by decide +kernel) rfl ⟨by decide, by decide⟩ ?_
      refine ⟨t4, fun j hj => ?_, fun j h1 h2 => ?_, fun j hj => t2 j (by omega), t3⟩
      · have := t1 j (by omega)
        rwa [if_pos hj, if_pos hj] at this
      · have := t1 j (by omega)
        rwa [if_neg (by omega), if_neg (by omega)] at this
    · refine g_aload_n (i := 0) (by decide +kernel) rfl ?_
      refine g_getr f_Sh_33 (by decide +kernel) (by omega) hS.a0 rfl ?_
      refine g_iload_n (i := 2) (by decide +kernel) rfl ?_
      refine g_aload_n (i := 0) (by decide +kernel) rfl ?_
      refine g_getr f_Sh_33 (by decide +kernel) (by omega) hS.a0 rfl ?_
      refine g_iload_n (i := 2) (by decide +kernel) rfl ?_
      refine g_iconst (a := 1) (by decide +kernel) ?_
      refine g_iadd (by decide +kernel) ?_
      refine g_iald (j := i + 1) (by decide +kernel) (by omega) hS.a8 (by omega) (by omega) (by decide) ?_
      refine g_iast (j := i) (by decide +kernel) (by omega) hS.a8 rfl (by omega) (by decide) ?_
      refine g_aload_n (i := 0) (by decide +kernel) rfl ?_
      refine g_getr f_Sh_36 (by decide +kernel) (by omega) hS.a0 rfl ?_
      refine g_iload_n (i := 2) (by decide +kernel) rfl ?_
      refine g_aload_n (i := 0) (by decide +kernel) rfl ?_
      refine g_getr f_Sh_36 (by decide +kernel) (by omega) hS.a0 rfl ?_
      refine g_iload_n (i := 2) (by decide +kernel) rfl ?_
      refine g_iconst (a := 1) (by decide +kernel) ?_
      refine g_iadd (by decide +kernel) ?_
      refine g_iald (j := i + 1) (by decide +kernel) (by omega) hS.a9 (by omega) (by omega) (by decide) ?_
      refine g_iast (j := i) (by decide +kernel) (by omega) hS.a9 rfl (by omega) (by decide) ?_
      refine g_iinc (i := 2) (b := 1) (L' := [(0, _), (1, _), (2, _)]) (by decide +kernel) rfl rfl rfl ?_
      refine g_goto (off := -39) (tgt := 12) (by decide +kernel) (by decide) ?_
      refine ih (i + 1) _ _ (by omega) (by simp [zs_app]; exact t0) (fun j hj => ?_) (fun j hj => ?_) (fun a h1 h2 h3 => by rw [zs_other h3, zs_other h2]; exact t3 a h1 h2 h3) (by rw [zs_other (by omega), zs_other (by omega)]; exact t4) (by omega) (by omega) (by omega)
      · rcases Nat.lt_or_ge j i with q | q
        · have := t1 j q
          simpa [zs_app, zu_app, show ¬ j = i by omega] using this
        · have e : j = i := by omega
          subst e
          have a1 := (t2 (j + 1) (by omega)).1
          have a2 := (t2 (j + 1) (by omega)).2
          simp [zs_app, zu_app, show ¬ j < k by omega, a1, a2]
      · have := t2 j (by omega)
        simpa [zs_app, zu_app, show ¬ j = i by omega] using this
theorem c_Sh_dropPress {G : zG} {n : Nat} {σ : zSt} {b : Nat} {i : Nat} (hn : 189 ≤ n) (hS : zSw SH b) (hg : zGood σ b) (hi : (i : Int) < σ b 8) : Gm G y_Sh_dropPress m_Sh_dropPress 0 0 0 [vr G b, vi i] n SH σ (zV n SH (fun σ' => zDropP σ σ' b i)) := by
  refine g_enter (L := [(0, _), (1, _)]) (by decide) rfl rfl rfl (Nat.le_of_ble_eq_true rfl) (fun X => ?_)
  have hb := hS.1
  have hc := hg.1
  refine g_aload_n (i := 0) (by decide +kernel) rfl ?_
  refine g_dup (by decide +kernel) rfl ?_
  refine g_geti f_Sh_49 (by decide +kernel) (by omega) hS.a0 rfl ?_
  refine g_iconst (a := 1) (by decide +kernel) ?_
  refine g_isub (by decide +kernel) ?_
  refine g_puti f_Sh_49 (by decide +kernel) (by omega) hS.a0 rfl ?_
  refine g_iload_n (i := 1) (by decide +kernel) rfl ?_
  refine g_istore_n (i := 2) (L' := [(0, _), (1, _), (2, _)]) (by decide +kernel) rfl rfl ?_
  exact w_Sh_dropPress hn hS hg 7 i _ _ rfl (by simp [zs_app, zu]) (fun j hj => by rw [zs_other (by omega), zs_other (by omega), if_pos hj, if_pos hj]; exact ⟨rfl, rfl⟩) (fun j hj => by rw [zs_other (by omega), zs_other (by omega)]; exact ⟨rfl, rfl⟩) (fun a h1 h2 h3 => zs_other h1) (zs_row _ _ _ _) (by omega) (by omega) (by omega)
/-- where a place goes when one moves from old to new -/
def zsp (old new p : Int) : Int := if new ≤ (if old < p then p - 1 else p) then (if old < p then p - 1 else p) + 1 else (if old < p then p - 1 else p)
def zShift (σ σ' : zSt) (b k : Nat) (new : Int) : Prop := (∀ a, a ≠ b + 3 → σ' a = σ a) ∧ σ' (b + 3) k = new ∧ (∀ j, j < (σ b 0).toNat → j ≠ k → σ' (b + 3) j = if σ (b + 2) j = σ (b + 2) k then zsp (σ (b + 3) k) new (σ (b + 3) j) else σ (b + 3) j) ∧ ∀ j, (σ b 0).toNat ≤ j → j ≠ k → σ' (b + 3) j = σ (b + 3) j
theorem w_Sh_shift {G : zG} {X : zX} {n : Nat} {σ : zSt} {b k : Nat} {y : Int} (hn : 189 ≤ n) (hS : zSw SH b) (hg : zGood σ b) (hk : k < 12) (hy : 0 ≤ y ∧ y ≤ 12) : ∀ (m : Nat) (i : Nat) (x4 : Int) (τ : zSt), x4 = (i : Int) → (∀ a, a ≠ b + 3 → τ a = σ a) → (∀ j, j < i → τ (b + 3) j = if j ≠ k ∧ σ (b + 2) j = σ (b + 2) k then zsp (σ (b + 3) k) y (σ (b + 3) j) else σ (b + 3) j) → (∀ j, i ≤ j → τ (b + 3) j = σ (b + 3) j) → i ≤ (σ b 0).toNat → (σ b 0).toNat < i + m → Go G X m_Sh_shift (0, 0, 0, 0, 0) n SH τ 10 [(0, vr G b), (1, vi k), (2, vi y), (3, vi (σ (b + 3) k)), (4, vi x4)] [] (zV n SH (fun σ' => zShift σ σ' b k y)) := by
  intro m
  induction m with
  | zero => intro i x4 τ e4 t0 t1 t2 hi hm; exact absurd hm (by omega)
  | succ m ih =>
    intro i x4 τ e4 t0 t1 t2 hi hm
    have hb := hS.1
    have hc := hg.1
    subst e4
    have s0 : τ b 0 = σ b 0 := by rw [t0 _ (by omega)]
    have s1 : ∀ j, τ (b + 2) j = σ (b + 2) j := fun j => by rw [t0 _ (by omega)]
    have s2 := s1 i
    have s3 := s1 k
    have s4 := t2 i (Nat.le_refl i)
    have hkk := hg.2.1 k hk
    refine g_iload (i := 4) (by decide +kernel) rfl ?_
    refine g_aload_n (i := 0) (by decide +kernel) rfl ?_
    refine g_geti f_Sh_39 (by decide +kernel) (by omega) hS.a0 rfl ?_
    refine g_icmp_ge (off := 75) (tgt := 91) (by decide +kernel) (by decide) ⟨by omega, by omega⟩ ⟨by omega, by omega⟩ (fun h16 => ?_) (fun h16 => ?_)
    · refine g_aload_n (i := 0) (by decide +kernel) rfl ?_
      refine g_getr f_Sh_18 (by decide +kernel) (by omega) hS.a0 rfl ?_
      refine g_iload_n (i := 1) (by decide +kernel) rfl ?_
      refine g_iload_n (i := 2) (by decide +kernel) rfl ?_
      refine g_iast (by decide +kernel) (by omega) hS.a3 rfl (by omega) (by decide) ?_
      refine g_retV (by decide +kernel) rfl ⟨by decide, by decide⟩ ?_
      refine ⟨fun a ha => by rw [zs_other ha]; exact t0 a ha, by simp [zs_app, zu], fun j hj hjk => ?_, fun j hj hjk => ?_⟩
      · have := t1 j (by omega)
        simp only [zs_app, zu, if_true, if_neg hjk]
        rw [this]
        simp [hjk]
      · simp only [zs_app, zu, if_true, if_neg hjk]
        exact t2 j (by omega)
    · have hk2 := hg.2.1 i (by omega)
      refine g_aload_n (i := 0) (by decide +kernel) rfl ?_
      refine g_getr f_Sh_15 (by decide +kernel) (by omega) hS.a0 rfl ?_
      refine g_iload (i := 4) (by decide +kernel) rfl ?_
      refine g_iald (j := i) (by decide +kernel) (by omega) hS.a2 rfl (by omega) (by decide) ?_
      refine g_aload_n (i := 0) (by decide +kernel) rfl ?_
      refine g_getr f_Sh_15 (by decide +kernel) (by omega) hS.a0 rfl ?_
      refine g_iload_n (i := 1) (by decide +kernel) rfl ?_
      refine g_iald (j := k) (by decide +kernel) (by omega) hS.a2 rfl (by omega) (by decide) ?_
      refine g_icmp_ne (off := 53) (tgt := 85) (by decide +kernel) (by decide) ⟨by omega, by omega⟩ ⟨by omega, by omega⟩ (fun h32 => ?_) (fun h32 => ?_)
      · refine g_iinc (i := 4) (b := 1) (L' := [(0, _), (1, _), (2, _), (3, _), (4, _)]) (by decide +kernel) rfl rfl rfl ?_
        refine g_goto (off := -78) (tgt := 10) (by decide +kernel) (by decide) ?_
        refine ih (i + 1) _ _ (by omega) (fun a ha => by first | exact t0 a ha | (rw [zs_other ha]; exact t0 a ha) | (rw [zs_other ha, zs_other ha]; exact t0 a ha)) (fun j hj => ?_) (fun j hj => ?_) (by omega) (by omega)
        · rcases Nat.lt_or_ge j i with q | q
          · have := t1 j q
            simpa [zs_app, zu, show ¬ j = i by omega] using this
          · have e : j = i := by omega
            subst e
            try simp only [zs_app, zu, if_true] at *
            unfold zsp
            (repeat' split) <;> omega
        · have := t2 j (by omega)
          simpa [zs_app, zu, show ¬ j = i by omega] using this
      · refine g_iload (i := 4) (by decide +kernel) rfl ?_
        refine g_iload_n (i := 1) (by decide +kernel) rfl ?_
        refine g_icmp_eq (off := 47) (tgt := 85) (by decide +kernel) (by decide) ⟨by omega, by omega⟩ ⟨by omega, by omega⟩ (fun h38 => ?_) (fun h38 => ?_)
        · refine g_iinc (i := 4) (b := 1) (L' := [(0, _), (1, _), (2, _), (3, _), (4, _)]) (by decide +kernel) rfl rfl rfl ?_
          refine g_goto (off := -78) (tgt := 10) (by decide +kernel) (by decide) ?_
          refine ih (i + 1) _ _ (by omega) (fun a ha => by first | exact t0 a ha | (rw [zs_other ha]; exact t0 a ha) | (rw [zs_other ha, zs_other ha]; exact t0 a ha)) (fun j hj => ?_) (fun j hj => ?_) (by omega) (by omega)
          · rcases Nat.lt_or_ge j i with q | q
            · have := t1 j q
              simpa [zs_app, zu, show ¬ j = i by omega] using this
            · have e : j = i := by omega
              subst e
              try simp only [zs_app, zu, if_true] at *
              unfold zsp
              (repeat' split) <;> omega
          · have := t2 j (by omega)
            simpa [zs_app, zu, show ¬ j = i by omega] using this
        · refine g_aload_n (i := 0) (by decide +kernel) rfl ?_
          refine g_getr f_Sh_18 (by decide +kernel) (by omega) hS.a0 rfl ?_
          refine g_iload (i := 4) (by decide +kernel) rfl ?_
          refine g_iald (j := i) (by decide +kernel) (by omega) hS.a3 rfl (by omega) (by decide) ?_
          refine g_iload_n (i := 3) (by decide +kernel) rfl ?_
          refine g_icmp_le (off := 14) (tgt := 63) (by decide +kernel) (by decide) ⟨by omega, by omega⟩ ⟨by omega, by omega⟩ (fun h49 => ?_) (fun h49 => ?_)
          · refine g_aload_n (i := 0) (by decide +kernel) rfl ?_
            refine g_getr f_Sh_18 (by decide +kernel) (by omega) hS.a0 rfl ?_
            refine g_iload (i := 4) (by decide +kernel) rfl ?_
            refine g_iald (j := i) (by decide +kernel) (by omega) hS.a3 rfl (by omega) (by decide) ?_
            refine g_iload_n (i := 2) (by decide +kernel) rfl ?_
            refine g_icmp_lt (off := 14) (tgt := 85) (by decide +kernel) (by decide) ⟨by first | omega | (simp [zs_app, zu]; omega), by first | omega | (simp [zs_app, zu]; omega)⟩ ⟨by omega, by omega⟩ (fun h71 => ?_) (fun h71 => ?_)
            · refine g_iinc (i := 4) (b := 1) (L' := [(0, _), (1, _), (2, _), (3, _), (4, _)]) (by decide +kernel) rfl rfl rfl ?_
              refine g_goto (off := -78) (tgt := 10) (by decide +kernel) (by decide) ?_
              refine ih (i + 1) _ _ (by omega) (fun a ha => by first | exact t0 a ha | (rw [zs_other ha]; exact t0 a ha) | (rw [zs_other ha, zs_other ha]; exact t0 a ha)) (fun j hj => ?_) (fun j hj => ?_) (by omega) (by omega)
              · rcases Nat.lt_or_ge j i with q | q
                · have := t1 j q
                  simpa [zs_app, zu, show ¬ j = i by omega] using this
                · have e : j = i := by omega
                  subst e
                  try simp only [zs_app, zu, if_true] at *
                  unfold zsp
                  (repeat' split) <;> omega
              · have := t2 j (by omega)
                simpa [zs_app, zu, show ¬ j = i by omega] using this
            · refine g_aload_n (i := 0) (by decide +kernel) rfl ?_
              refine g_getr f_Sh_18 (by decide +kernel) (by omega) hS.a0 rfl ?_
              refine g_iload (i := 4) (by decide +kernel) rfl ?_
              refine g_dup2 (by decide +kernel) rfl rfl ?_
              refine g_iald (j := i) (by decide +kernel) (by omega) hS.a3 rfl (by omega) (by decide) ?_
              refine g_iconst (a := 1) (by decide +kernel) ?_
              refine g_iadd (by decide +kernel) ?_
              refine g_iast (j := i) (by decide +kernel) (by omega) hS.a3 rfl (by omega) (by decide) ?_
              refine g_iinc (i := 4) (b := 1) (L' := [(0, _), (1, _), (2, _), (3, _), (4, _)]) (by decide +kernel) rfl rfl rfl ?_
              refine g_goto (off := -78) (tgt := 10) (by decide +kernel) (by decide) ?_
              refine ih (i + 1) _ _ (by omega) (fun a ha => by first | exact t0 a ha | (rw [zs_other ha]; exact t0 a ha) | (rw [zs_other ha, zs_other ha]; exact t0 a ha)) (fun j hj => ?_) (fun j hj => ?_) (by omega) (by omega)
              · rcases Nat.lt_or_ge j i with q | q
                · have := t1 j q
                  simpa [zs_app, zu, show ¬ j = i by omega] using this
                · have e : j = i := by omega
                  subst e
                  try simp only [zs_app, zu, if_true] at *
                  unfold zsp
                  (repeat' split) <;> omega
              · have := t2 j (by omega)
                simpa [zs_app, zu, show ¬ j = i by omega] using this
          · refine g_aload_n (i := 0) (by decide +kernel) rfl ?_
            refine g_getr f_Sh_18 (by decide +kernel) (by omega) hS.a0 rfl ?_
            refine g_iload (i := 4) (by decide +kernel) rfl ?_
            refine g_dup2 (by decide +kernel) rfl rfl ?_
            refine g_iald (j := i) (by decide +kernel) (by omega) hS.a3 rfl (by omega) (by decide) ?_
            refine g_iconst (a := 1) (by decide +kernel) ?_
            refine g_isub (by decide +kernel) ?_
            refine g_iast (j := i) (by decide +kernel) (by omega) hS.a3 rfl (by omega) (by decide) ?_
            refine g_aload_n (i := 0) (by decide +kernel) rfl ?_
            refine g_getr f_Sh_18 (by decide +kernel) (by omega) hS.a0 rfl ?_
            refine g_iload (i := 4) (by decide +kernel) rfl ?_
            refine g_iald (j := i) (by decide +kernel) (by omega) hS.a3 rfl (by omega) (by decide) ?_
            refine g_iload_n (i := 2) (by decide +kernel) rfl ?_
            refine g_icmp_lt (off := 14) (tgt := 85) (by decide +kernel) (by decide) ⟨by first | omega | (simp [zs_app, zu]; omega), by first | omega | (simp [zs_app, zu]; omega)⟩ ⟨by omega, by omega⟩ (fun h71 => ?_) (fun h71 => ?_)
            · refine g_iinc (i := 4) (b := 1) (L' := [(0, _), (1, _), (2, _), (3, _), (4, _)]) (by decide +kernel) rfl rfl rfl ?_
              refine g_goto (off := -78) (tgt := 10) (by decide +kernel) (by decide) ?_
              refine ih (i + 1) _ _ (by omega) (fun a ha => by first | exact t0 a ha | (rw [zs_other ha]; exact t0 a ha) | (rw [zs_other ha, zs_other ha]; exact t0 a ha)) (fun j hj => ?_) (fun j hj => ?_) (by omega) (by omega)
              · rcases Nat.lt_or_ge j i with q | q
                · have := t1 j q
                  simpa [zs_app, zu, show ¬ j = i by omega] using this
                · have e : j = i := by omega
                  subst e
                  try simp only [zs_app, zu, if_true] at *
                  unfold zsp
                  (repeat' split) <;> omega
              · have := t2 j (by omega)
                simpa [zs_app, zu, show ¬ j = i by omega] using this
            · refine g_aload_n (i := 0) (by decide +kernel) rfl ?_
              refine g_getr f_Sh_18 (by decide +kernel) (by omega) hS.a0 rfl ?_
              refine g_iload (i := 4) (by decide +kernel) rfl ?_
              refine g_dup2 (by decide +kernel) rfl rfl ?_
              refine g_iald (j := i) (by decide +kernel) (by omega) hS.a3 rfl (by omega) (by decide) ?_
              refine g_iconst (a := 1) (by decide +kernel) ?_
              refine g_iadd (by decide +kernel) ?_
              refine g_iast (j := i) (by decide +kernel) (by omega) hS.a3 rfl (by omega) (by decide) ?_
              refine g_iinc (i := 4) (b := 1) (L' := [(0, _), (1, _), (2, _), (3, _), (4, _)]) (by decide +kernel) rfl rfl rfl ?_
              refine g_goto (off := -78) (tgt := 10) (by decide +kernel) (by decide) ?_
              refine ih (i + 1) _ _ (by omega) (fun a ha => by first | exact t0 a ha | (rw [zs_other ha]; exact t0 a ha) | (rw [zs_other ha, zs_other ha]; exact t0 a ha)) (fun j hj => ?_) (fun j hj => ?_) (by omega) (by omega)
              · rcases Nat.lt_or_ge j i with q | q
                · have := t1 j q
                  simpa [zs_app, zu, show ¬ j = i by omega] using this
                · have e : j = i := by omega
                  subst e
                  try simp only [zs_app, zu, if_true] at *
                  unfold zsp
                  (repeat' split) <;> omega
              · have := t2 j (by omega)
                simpa [zs_app, zu, show ¬ j = i by omega] using this
theorem c_Sh_shift {G : zG} {n : Nat} {σ : zSt} {b : Nat} {k : Nat} {y : Int} (hn : 189 ≤ n) (hS : zSw SH b) (hg : zGood σ b) (hk : k < 12) (hy : 0 ≤ y ∧ y ≤ 12) : Gm G y_Sh_shift m_Sh_shift 0 0 0 [vr G b, vi k, vi y] n SH σ (zV n SH (fun σ' => zShift σ σ' b k y)) := by
  refine g_enter (L := [(0, _), (1, _), (2, _)]) (by decide) rfl rfl rfl (Nat.le_of_ble_eq_true rfl) (fun X => ?_)
  have hb := hS.1
  have hc := hg.1
  refine g_aload_n (i := 0) (by decide +kernel) rfl ?_
  refine g_getr f_Sh_18 (by decide +kernel) (by omega) hS.a0 rfl ?_
  refine g_iload_n (i := 1) (by decide +kernel) rfl ?_
  refine g_iald (by decide +kernel) (by omega) hS.a3 rfl (by omega) (by decide) ?_
  refine g_istore_n (i := 3) (L' := [(0, _), (1, _), (2, _), (3, _)]) (by decide +kernel) rfl rfl ?_
  refine g_iconst (a := 0) (by decide +kernel) ?_
  refine g_istore (i := 4) (L' := [(0, _), (1, _), (2, _), (3, _), (4, _)]) (by decide +kernel) rfl rfl ?_
  exact w_Sh_shift hn hS hg hk hy 13 0 _ _ rfl (fun _ _ => rfl) (fun j hj => by omega) (fun j _ => rfl) (by omega) (by omega)
