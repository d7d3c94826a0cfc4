/-! THE MOMENTS, once more: each of one Show at a time, by those at its presses' times -/
noncomputable def zPz (S : zSt) : Nat → zSt := fun j => zv S (S 9 j)
/-- a good Show whose moments are there -/
def zMz (S : zSt) : Prop := zVt S ∧ (∀ t, zIs S t (zv S t)) ∧ zGood S 0
section ZV
variable {S : zSt} {t : Int} {k i : Nat}
theorem zv_eqs (h : zMz S) (t : Int) (hk : k < zN S) : zEqA S (zsa S).1 (zsa S).2 t (zv S t) (zPz S) k := by
  obtain ⟨hS, hI, -⟩ := h
  obtain ⟨si, ac, P, a1, a2, a3, a4⟩ := hI t
  have L := zsa_eq hS a1
  have Z : ∀ j, j < (S 0 8).toNat → ∀ q, q < zN S → ∀ r, 1 ≤ r → r ≤ 6 → zPz S j r q = P j r q := fun j hj => by
    obtain ⟨si', ac', P', b1, b2, b3, b4⟩ := hI (S 9 j)
    exact zAll_uniq hS ⟨a1, a2, a2 j hj⟩ ⟨b1, b2, b3⟩
  obtain ⟨⟨d, r, hv⟩, p0, ht⟩ := hS
  refine zEqA_lay hv L hk ?_
  have e := a3 k hk
  unfold zEqA at *
  have hb : zBkA S ac t (zv S t) (zPz S) k = zBkA S ac t (zv S t) P k := zBkA_cong (zEqv.of (fun _ _ => rfl)) hv hk rfl (fun _ _ => rfl) (fun j hj => by
    by_cases e : t < S 9 j
    · exact Or.inl ⟨e, e⟩
    · refine Or.inr ⟨by omega, by omega, fun q hq => ?_⟩
      unfold zThA
      by_cases e2 : S 9 j = t
      · rw [if_pos e2, if_pos e2]; exact ⟨rfl, rfl, rfl⟩
      · rw [if_neg e2, if_neg e2]
        exact ⟨Z j hj q (by omega) 1 (by decide) (by decide), Z j hj q (by omega) 2 (by decide) (by decide), Z j hj q (by omega) 3 (by decide) (by decide)⟩)
  rw [hb]
  exact e
theorem zTh_pz (S : zSt) (t : Int) (j : Nat) : zThA S t (zv S t) (zPz S) j = zv S (S 9 j) := by
  unfold zThA
  split
  · next e => rw [e]
  · rfl
/-- BEGIN as it is known -/
noncomputable def zBK (S : zSt) (t : Int) (k : Nat) : Int := zBkA S (zsa S).2 t (zv S t) (zPz S) k
noncomputable def zbq (S : zSt) (t : Int) (k i : Nat) : Bool := decide (S 8 (zpr S i) = S 6 (zBs S 12 k) ∧ S 9 (zpr S i) ≤ t ∧ zv S (S 9 (zpr S i)) 1 (S 2 k).toNat = 2) && zsame (S 2) (zv S t 3) (zv S (S 9 (zpr S i)) 3) 12 (S 2 k)
noncomputable def zBq (S : zSt) (t : Int) (k : Nat) : Int := zfst (zbq S t k) (S 0 8).toNat
noncomputable def zB0 (S : zSt) (t : Int) (k : Nat) : Int := if zBq S t k = -1 then -1 else zv S (S 9 (zpr S (zBq S t k).toNat)) 2 (S 2 k).toNat
theorem zbpA_q (S : zSt) (t : Int) (k : Nat) : zbpA S t (zv S t) (zPz S) k = zbq S t k := by
  funext i
  unfold zbpA zbq
  rw [zTh_pz]
theorem zBK_eq (S : zSt) (t : Int) (k : Nat) : zBK S t k = if zOk S k = true then (if zBq S t k = -1 then -1 else zv S (S 9 (zpr S (zBq S t k).toNat)) 2 (S 2 k).toNat + zBe S (zsa S).2 k) else zBe S (zsa S).2 k := by
  unfold zBK zBkA zBPA zBq
  rw [zbpA_q, zTh_pz]
theorem zv_run (h : zMz S) (hk : k < zN S) (hr : zv S t 1 k = 2 ∨ zv S t 1 k = 3) : (1 ≤ (zsa S).1 k ∧ (zsa S).1 k ≤ 80109810) ∧ (0 ≤ zv S t 5 k ∧ zv S t 5 k < (zsa S).2 k) ∧ (0 ≤ zv S t 2 k ∧ zv S t 2 k < (zsa S).1 k) ∧ (0 ≤ zv S t 3 k ∧ zv S t 3 k ≤ 1000000000) := by
  have E := zv_eqs h t hk
  have hl := h.1.lay
  obtain ⟨⟨d, r, hv⟩, p0, ht⟩ := h.1
  obtain ⟨e1, e5, e2, e3, e4, e6⟩ := E
  have mk := (hv.2.2.1 k hk).1
  have bd := zLay_bound hv hl hk
  rw [if_pos hr] at e2 e3
  have u : 0 ≤ zv S t 5 k ∧ zv S t 5 k < (zsa S).2 k := by
    rcases hr with z | z
    · rw [z] at e1 e5
      rw [if_pos rfl] at e5
      split at e1
      · omega
      · split at e1
        · omega
        · split at e1
          · omega
          · split at e1 <;> omega
    · rw [z] at e1 e5
      rw [if_neg (by decide), if_pos rfl] at e5
      split at e1
      · omega
      · split at e1
        · omega
        · split at e1
          · omega
          · split at e1 <;> omega
  have s1 : 1 ≤ (zsa S).1 k := by
    have l2 := (hl k hk).2
    exact zAc_pos mk bd.1.1 (by rw [← l2]; omega)
  refine ⟨⟨s1, bd.1.2⟩, u, ?_, ?_⟩
  · have a := Int.emod_nonneg (zv S t 5 k * S 7 (9 * k + 1)) (show (zsa S).1 k ≠ 0 by omega)
    have b := Int.emod_lt_of_pos (zv S t 5 k * S 7 (9 * k + 1)) (show 0 < (zsa S).1 k by omega)
    rw [e2]
    split <;> omega
  · rw [e3]
    refine ⟨Int.ediv_nonneg (Int.mul_nonneg u.1 (by have := mk.2.1.1; omega)) (by omega), zAc_pass mk s1 u.1 ?_⟩
    rw [← (hl k hk).2]
    exact u.2
theorem zv_st (h : zMz S) (hk : k < zN S) : 0 ≤ zv S t 1 k ∧ zv S t 1 k ≤ 4 := by
  rw [(zv_eqs h t hk).1]
  repeat' split
  all_goals omega
theorem zv_no (h : zMz S) (hk : k < zN S) (hr : ¬ (zv S t 1 k = 2 ∨ zv S t 1 k = 3)) : zv S t 2 k = -1 ∧ zv S t 3 k = -1 ∧ zv S t 6 k = 0 := by
  obtain ⟨e1, e5, e2, e3, e4, e6⟩ := zv_eqs h t hk
  rw [if_neg hr] at e2 e3 e6
  exact ⟨e2, e3, e6⟩
theorem zv_rg (h : zMz S) (hk : k < zN S) : (-1 ≤ zv S t 2 k ∧ zv S t 2 k ≤ 80109810) ∧ (-1 ≤ zv S t 3 k ∧ zv S t 3 k ≤ 1000000000) := by
  by_cases z : zv S t 1 k = 2 ∨ zv S t 1 k = 3
  · have := zv_run h hk z
    omega
  · have := zv_no h hk z
    omega
theorem zown_in {x y : Int} (hx : 0 ≤ x) (hy : 0 ≤ y) {s : Int} (hs : 0 ≤ s ∧ s ≤ 100) : 0 ≤ min 100 (min x y) * s / 100 ∧ min 100 (min x y) * s / 100 ≤ 100 := by
  have a : 0 ≤ min 100 (min x y) ∧ min 100 (min x y) ≤ 100 := by omega
  have c0 : 0 ≤ min 100 (min x y) * s := Int.mul_nonneg a.1 hs.1
  have c1 : min 100 (min x y) * s ≤ 100 * 100 := Int.mul_le_mul a.2 hs.2 hs.1 (by decide)
  exact ⟨Int.ediv_nonneg c0 (by decide), by omega⟩
theorem zv_sg (h : zMz S) (hk : k < zN S) : 0 ≤ zv S t 6 k ∧ zv S t 6 k ≤ 100 := by
  have key : ∀ n k, k < n → k < zN S → 0 ≤ zv S t 6 k ∧ zv S t 6 k ≤ 100 := by
    intro n
    induction n with
    | zero => intro k hk; omega
    | succ n ih =>
      intro k hn hk
      have E := zv_eqs h t hk
      by_cases z : zv S t 1 k = 2 ∨ zv S t 1 k = 3
      · have R := zv_run h hk z
        obtain ⟨⟨d, r, hv⟩, p0, ht⟩ := h.1
        have tk := hv.2.1 k hk
        obtain ⟨e1, e5, e2, e3, e4, e6⟩ := E
        rw [if_pos z] at e6
        rw [e6]
        have hN := hv.1.1
        have q7 := h.2.2.2.2.1 (9 * k + 7) (by omega)
        have q8 := h.2.2.2.2.1 (9 * k + 8) (by omega)
        have q7 : 0 ≤ S 7 (9 * k + 7) ∧ S 7 (9 * k + 7) ≤ 999 := q7
        have q8 : 0 ≤ S 7 (9 * k + 8) ∧ S 7 (9 * k + 8) ≤ 999 := q8
        refine zown_in (Int.ediv_nonneg (by omega) (by omega)) (Int.ediv_nonneg (by omega) (by omega)) ?_
        split
        · decide
        · exact ih _ (by omega) (by omega)
      · have := zv_no h hk z
        omega
  exact key (k + 1) k (by omega) hk
theorem zBq_sp (S : zSt) (t : Int) (k : Nat) : zBq S t k = -1 ∨ ∃ i : Nat, zBq S t k = i ∧ i < (S 0 8).toNat ∧ S 9 (zpr S i) ≤ t ∧ zv S (S 9 (zpr S i)) 1 (S 2 k).toNat = 2 := by
  have sp : (zBq S t k = -1 ∧ ∀ j, j < (S 0 8).toNat → zbq S t k j = false) ∨ ∃ i : Nat, zBq S t k = (i : Int) ∧ i < (S 0 8).toNat ∧ zbq S t k i = true ∧ ∀ j, j < i → zbq S t k j = false := zfst_spec
  rcases sp with ⟨e, -⟩ | ⟨i, e1, e2, e3, -⟩
  · exact Or.inl e
  · unfold zbq at e3
    rw [Bool.and_eq_true] at e3
    have := of_decide_eq_true e3.1
    exact Or.inr ⟨i, e1, e2, this.2⟩
theorem zOk_sp (h : zMz S) (hk : k < zN S) (ho : zOk S k = true) : (0 ≤ S 2 k ∧ (S 2 k).toNat < zN S ∧ (S 2 k).toNat < k) ∧ zBe S (zsa S).2 k = zBg S (zsa S).2 k ∧ zOp S k = true ∧ S 1 (S 2 k).toNat ≠ 2 := by
  obtain ⟨⟨d, r, hv⟩, -⟩ := h.1
  have tk := hv.2.1 k hk
  unfold zOk at ho
  split at ho
  · cases ho
  · next e =>
    split at ho
    · cases ho
    · next e2 =>
      refine ⟨⟨by omega, by omega, by omega⟩, ?_, ho, e2⟩
      unfold zBe
      rw [if_neg e, if_neg e2]
theorem zBK_in (h : zMz S) (hk : k < zN S) : -1 ≤ zBK S t k ∧ zBK S t k ≤ 200000000 := by
  obtain ⟨⟨d, r, hv⟩, -⟩ := h.1
  have b := zBe_in hv h.1.lay hk
  rw [zBK_eq]
  split
  · next ho =>
    have o := zOk_sp h hk ho
    rcases zBq_sp S t k with e | ⟨i, e1, e2, e3, e4⟩
    · rw [if_pos e]; omega
    · rw [if_neg (by omega), e1, Int.toNat_natCast]
      have R := zv_run h o.1.2.1 (Or.inl e4)
      omega
  · omega
/-- a press is right for all that start by one another -/
theorem zBK_by (h : zMz S) (hk : k < zN S) (ho : zOk S k = true) (hb : zby (S 4 k) = true) : zOk S (S 5 k).toNat = true ∧ zBK S t k = (if zBK S t (S 5 k).toNat < 0 then -1 else zBK S t (S 5 k).toNat + S 6 k + (if S 4 k = 2 then (zsa S).2 (S 5 k).toNat else 0)) := by
  have o := zOk_sp h hk ho
  obtain ⟨⟨d, r, hv⟩, -⟩ := id h.1
  have ot := hv.oth hk hb
  have g := zBg_by (ac := (zsa S).2) hv hk hb
  have e := zBs_end hv 11 _ ot.2.1 (by have := zrk_lt hv hk hb; have := zrk_le (r := r) hk; have := hv.1.1; omega)
  have m := zBs_m (ac := (zsa S).2) 11 _ e
  have bs : zBs S 12 k = zBs S 12 (S 5 k).toNat := by rw [zBs_s S 11 k, if_pos hb, m.1]
  have q : zbq S t (S 5 k).toNat = zbq S t k := by
    funext i
    unfold zbq
    rw [bs, ot.2.2.1]
  have ok2 : zOk S (S 5 k).toNat = true := by
    unfold zOk
    rw [ot.2.2.1, if_neg (by omega), if_neg o.2.2.2, ← g.2]
    exact o.2.2.1
  refine ⟨ok2, ?_⟩
  have o2 := zOk_sp h ot.2.1 ok2
  have b2 := zBe_in hv h.1.lay ot.2.1
  have q2 : zBq S t (S 5 k).toNat = zBq S t k := by unfold zBq; rw [q]
  rw [zBK_eq S t k, zBK_eq S t (S 5 k).toNat, if_pos ho, if_pos ok2, q2, ot.2.2.1]
  rcases zBq_sp S t k with e | ⟨i, e1, e2, e3, e4⟩
  · rw [if_pos e, if_pos e, if_pos (by decide)]
  · have ne : ¬ zBq S t k = -1 := by omega
    simp only [if_neg ne]
    rw [e1, Int.toNat_natCast]
    have R := zv_run h o.1.2.1 (Or.inl e4)
    rw [if_neg (by omega), o.2.1, o2.2.1, g.1]
    omega
theorem zBK_pr (h : zMz S) (hk : k < zN S) (ho : zOk S k = true) (h3 : S 4 k = 3) : zBK S t k = zB0 S t k := by
  have o := zOk_sp h hk ho
  rw [zBK_eq, if_pos ho, o.2.1, (zBg_own (ac := (zsa S).2) (by rw [h3]; rfl)).1, if_pos h3]
  unfold zB0
  split
  · rfl
  · exact Int.add_zero _
end ZV
/-- a slot holds the moment of S at t, as far as clips below i go -/
def zSo2 (τ S : zSt) (s : Nat) (t : Int) (i : Nat) : Prop := ∀ k, k < i → τ 202 (12 * s + k) = zv S t 1 k ∧ τ 203 (12 * s + k) = zv S t 2 k ∧ τ 204 (12 * s + k) = zv S t 3 k ∧ τ 205 (12 * s + k) = zv S t 4 k ∧ τ 206 (12 * s + k) = zv S t 6 k
/-- what a look at t in slot s stands on -/
def zSx (τ S : zSt) (s : Nat) (t : Int) (K : Nat) : Prop := zMz S ∧ (zMc τ S ∧ zLdA τ S) ∧ (∀ i, i < (S 0 8).toNat → τ 207 i = zord (S 9) (S 0 8).toNat i) ∧ (∀ i, i < (S 0 8).toNat → S 9 (zpr S i) < t → zSo2 τ S i (S 9 (zpr S i)) (zN S)) ∧ zSo2 τ S s t K ∧ s < 8 ∧ K ≤ zN S
theorem w2_Md_sortsPresses {G : zG} {X : zX} {n : Nat} {σ : zSt} {post : zPost} {i : Nat} {S : zSt} (hn : 220 ≤ n) (hS : zMc σ S) (hi : i < (S 0 8).toNat) (kk : ∀ τ', (∀ a, a ≠ 207 → τ' a = σ a) → (∀ j, j < i + 1 → τ' 207 j = zord (S 9) (i + 1) j) → Go G X m_Md_sortsPresses (0, 0, 0, 0, 0) n SH τ' 2 [(0, vr G 189), (1, vi ((i : Int) + 1))] [] post) : ∀ (m : Nat) (t : Nat) (x2 : Int) (τ : zSt), x2 = (t : Int) → (∀ a, a ≠ 207 → τ a = σ a) → (∀ j, j < t → τ 207 j = zord (S 9) i j) → (∀ j, t < j → j ≤ i → τ 207 j = zord (S 9) i (j - 1)) → zpos (S 9) (zord (S 9) i) (S 9 i) i = zpos (S 9) (zord (S 9) i) (S 9 i) t → t ≤ i → t < m → Go G X m_Md_sortsPresses (0, 0, 0, 0, 0) n SH τ 14 [(0, vr G 189), (1, vi (i : Int)), (2, vi x2)] [] (post) := by
  intro m
  induction m with
  | zero => intro t x2 τ e2 t1 t2 t3 e4 hti hm; exact absurd hm (by omega)
  | succ m ih =>
    intro t x2 τ e2 t1 t2 t3 e4 hti hm
    have e0 := hS.n
    have e8 := hS.p
    have hN := hS.N
    have hz : zN S = (S 0 0).toNat := rfl
    subst e2
    have hT : zMc τ S := hS.moved (t1 190 (by decide))
    have r1 := (hS.pr (show i < 6 by omega)).2
    have s1i := hT.tm hi
    refine g_iload_n (i := 2) (by decide +kernel) rfl ?_
    refine g_if_le (off := 53) (tgt := 68) (by decide +kernel) (by decide) ⟨by omega, by omega⟩ (fun h15 => ?_) (fun h15 => ?_)
    · have t0 : t = 0 := by omega
      subst t0
      have e4 : zpos (S 9) (zord (S 9) i) (S 9 i) i = 0 := e4
      refine g_aload_n (i := 0) (by decide +kernel) rfl ?_
      refine g_getr f_Md_103 (by decide +kernel) (by omega) rfl rfl ?_
      refine g_iload_n (i := 2) (by decide +kernel) rfl ?_
      refine g_iload_n (i := 1) (by decide +kernel) rfl ?_
      first
        | (refine g_iast (j := 0) (by decide +kernel) (by omega) rfl rfl (by omega) (by decide) ?_
           refine g_iinc (i := 1) (b := 1) (L' := [(0, _), (1, _), (2, _)]) (by decide +kernel) rfl rfl rfl ?_
           refine g_goto (off := -76) (tgt := 2) (by decide +kernel) (by decide) ?_
           refine g_less [0, 1] rfl (kk _ (fun a ha => by rw [zs_other ha]; exact t1 a ha) (fun j hj => ?_))
           rw [zs_row, zord_s, e4]
           by_cases e : j = 0
           · subst e; rw [zu_eq, if_neg (by omega), if_pos rfl]
           · rw [zu_ne e, if_neg (by omega), if_neg e]; exact t3 j (by omega) (by omega))
        | (refine g_iast (j := t + 1) (by decide +kernel) (by omega) rfl rfl (by omega) (by decide) ?_
           refine g_iinc (i := 1) (b := 1) (L' := [(0, _), (1, _), (2, _)]) (by decide +kernel) rfl rfl rfl ?_
           refine g_goto (off := -76) (tgt := 2) (by decide +kernel) (by decide) ?_
           refine g_less [0, 1] rfl (kk _ (fun a ha => by rw [zs_other ha]; exact t1 a ha) (fun j hj => ?_))
           rw [zs_row, zord_s, e4]
           by_cases e : j = t + 1
           · subst e; rw [zu_eq, if_neg (by omega), if_pos rfl]
           · rw [zu_ne e]
             by_cases e2 : j < t + 1
             · rw [if_pos e2]; exact t2 j e2
             · rw [if_neg e2, if_neg e]; exact t3 j (by omega) (by omega))
    · obtain ⟨t, rfl⟩ : ∃ u, t = u + 1 := ⟨t - 1, by omega⟩
      have s2 := t2 t (by omega)
      have r2 := zord_in (S 9) i t (by omega)
      have r3 := (hS.pr (show (zord (S 9) i t).toNat < 6 by omega)).2
      have s3 := hT.tm (show (zord (S 9) i t).toNat < (S 0 8).toNat by omega)
      rw [zpos_s] at e4
      refine g_aload_n (i := 0) (by decide +kernel) rfl ?_
      refine g_getr f_Md_7 (by decide +kernel) (by omega) rfl rfl ?_
      refine g_sipush (a := 188) (by decide +kernel) (by decide) ?_
      refine g_aload_n (i := 0) (by decide +kernel) rfl ?_
      refine g_getr f_Md_103 (by decide +kernel) (by omega) rfl rfl ?_
      refine g_iload_n (i := 2) (by decide +kernel) rfl ?_
      refine g_iconst (a := 1) (by decide +kernel) ?_
      refine g_isub (by decide +kernel) ?_
      refine g_iald (j := t) (by decide +kernel) (by omega) rfl (by push_cast; omega) (by omega) (by decide) ?_
      refine g_iadd (by decide +kernel) ?_
      refine g_iald (j := 188 + (zord (S 9) i t).toNat) (by decide +kernel) (by omega) rfl (by omega) (by omega) (by decide) ?_
      refine g_aload_n (i := 0) (by decide +kernel) rfl ?_
      refine g_getr f_Md_7 (by decide +kernel) (by omega) rfl rfl ?_
      refine g_sipush (a := 188) (by decide +kernel) (by decide) ?_
      refine g_iload_n (i := 1) (by decide +kernel) rfl ?_
      refine g_iadd (by decide +kernel) ?_
      refine g_iald (j := 188 + i) (by decide +kernel) (by omega) rfl (by omega) (by omega) (by decide) ?_
      refine g_icmp_le (off := 23) (tgt := 68) (by decide +kernel) (by decide) ⟨by omega, by omega⟩ ⟨by omega, by omega⟩ (fun h45 => ?_) (fun h45 => ?_)
      · rw [if_neg (by omega)] at e4
        refine g_aload_n (i := 0) (by decide +kernel) rfl ?_
        refine g_getr f_Md_103 (by decide +kernel) (by omega) rfl rfl ?_
        refine g_iload_n (i := 2) (by decide +kernel) rfl ?_
        refine g_iload_n (i := 1) (by decide +kernel) rfl ?_
        first
          | (refine g_iast (j := 0) (by decide +kernel) (by omega) rfl rfl (by omega) (by decide) ?_
             refine g_iinc (i := 1) (b := 1) (L' := [(0, _), (1, _), (2, _)]) (by decide +kernel) rfl rfl rfl ?_
             refine g_goto (off := -76) (tgt := 2) (by decide +kernel) (by decide) ?_
             refine g_less [0, 1] rfl (kk _ (fun a ha => by rw [zs_other ha]; exact t1 a ha) (fun j hj => ?_))
             rw [zs_row, zord_s, e4]
             by_cases e : j = 0
             · subst e; rw [zu_eq, if_neg (by omega), if_pos rfl]
             · rw [zu_ne e, if_neg (by omega), if_neg e]; exact t3 j (by omega) (by omega))
          | (refine g_iast (j := t + 1) (by decide +kernel) (by omega) rfl rfl (by omega) (by decide) ?_
             refine g_iinc (i := 1) (b := 1) (L' := [(0, _), (1, _), (2, _)]) (by decide +kernel) rfl rfl rfl ?_
             refine g_goto (off := -76) (tgt := 2) (by decide +kernel) (by decide) ?_
             refine g_less [0, 1] rfl (kk _ (fun a ha => by rw [zs_other ha]; exact t1 a ha) (fun j hj => ?_))
             rw [zs_row, zord_s, e4]
             by_cases e : j = t + 1
             · subst e; rw [zu_eq, if_neg (by omega), if_pos rfl]
             · rw [zu_ne e]
               by_cases e2 : j < t + 1
               · rw [if_pos e2]; exact t2 j e2
               · rw [if_neg e2, if_neg e]; exact t3 j (by omega) (by omega))
      · rw [if_pos (by omega)] at e4
        refine g_aload_n (i := 0) (by decide +kernel) rfl ?_
        refine g_getr f_Md_103 (by decide +kernel) (by omega) rfl rfl ?_
        refine g_iload_n (i := 2) (by decide +kernel) rfl ?_
        refine g_aload_n (i := 0) (by decide +kernel) rfl ?_
        refine g_getr f_Md_103 (by decide +kernel) (by omega) rfl rfl ?_
        refine g_iload_n (i := 2) (by decide +kernel) rfl ?_
        refine g_iconst (a := 1) (by decide +kernel) ?_
        refine g_isub (by decide +kernel) ?_
        refine g_iald (j := t) (by decide +kernel) (by omega) rfl (by push_cast; omega) (by omega) (by decide) ?_
        refine g_iast (j := t + 1) (by decide +kernel) (by omega) rfl rfl (by omega) (by decide) ?_
        refine g_iinc (i := 2) (b := -1) (L' := [(0, _), (1, _), (2, _)]) (by decide +kernel) rfl rfl rfl ?_
        refine g_goto (off := -51) (tgt := 14) (by decide +kernel) (by decide) ?_
        exact ih t _ _ (by push_cast; omega) (fun a ha => by rw [zs_other ha]; exact t1 a ha) (fun j hj => by rw [zs_row, zu_ne (by omega)]; exact t2 j (by omega)) (fun j h1 h2 => by
          by_cases e : j = t + 1
          · subst e; rw [zs_row, zu_eq]; simpa using s2
          · rw [zs_row, zu_ne e]; exact t3 j (by omega) h2) e4 (by omega) (by omega)
theorem w_Md_sortsPresses {G : zG} {X : zX} {n : Nat} {σ : zSt} {S : zSt} (hn : 220 ≤ n) (hS : zMc σ S)  : ∀ (m : Nat) (i : Nat) (x1 : Int) (τ : zSt), x1 = (i : Int) → (∀ a, a ≠ 207 → τ a = σ a) → (∀ j, j < i → τ 207 j = zord (S 9) i j) → i ≤ (S 0 8).toNat → (S 0 8).toNat < i + m → Go G X m_Md_sortsPresses (0, 0, 0, 0, 0) n SH τ 2 [(0, vr G 189), (1, vi x1)] [] (zV n SH (fun σ' => (∀ a, a ≠ 207 → σ' a = σ a) ∧ ∀ j, j < (S 0 8).toNat → σ' 207 j = zord (S 9) (S 0 8).toNat j)) := by
  intro m
  induction m with
  | zero => intro i x1 τ e1 t1 t2 hi hm; exact absurd hm (by omega)
  | succ m ih =>
    intro i x1 τ e1 t1 t2 hi hm
    have e0 := hS.n
    have e8 := hS.p
    have hN := hS.N
    have hz : zN S = (S 0 0).toNat := rfl
    subst e1
    have s0 : τ 190 1 = S 0 8 := by rw [t1 190 (by decide)]; exact e8
    refine g_iload_n (i := 1) (by decide +kernel) rfl ?_
    refine g_aload_n (i := 0) (by decide +kernel) rfl ?_
    refine g_getr f_Md_7 (by decide +kernel) (by omega) rfl rfl ?_
    refine g_iconst (a := 1) (by decide +kernel) ?_
    refine g_iald (j := 1) (by decide +kernel) (by omega) rfl (by omega) (by omega) (by decide) ?_
    refine g_icmp_ge (off := 72) (tgt := 81) (by decide +kernel) (by decide) ⟨by omega, by omega⟩ ⟨by omega, by omega⟩ (fun h9 => ?_) (fun h9 => ?_)
    · refine g_retV (by decide +kernel) rfl ⟨by decide, by decide⟩ ?_
      have e : i = (S 0 8).toNat := by omega
      subst e
      exact ⟨t1, t2⟩
    · refine g_iload_n (i := 1) (by decide +kernel) rfl ?_
      refine g_istore_n (i := 2) (L' := [(0, _), (1, _), (2, _)]) (by decide +kernel) rfl rfl ?_
      refine w2_Md_sortsPresses (σ := σ) hn hS (by omega) (fun τ' h1 h2 => ih (i + 1) _ τ' (by push_cast; rfl) h1 h2 (by omega) (by omega)) (i + 1) i _ τ rfl t1 t2 (fun j h1 h2 => by omega) rfl (by omega) (by omega)
theorem c_Md_sortsPresses {G : zG} {n : Nat} {σ : zSt} {S : zSt} (hn : 220 ≤ n) (hS : zMc σ S)  : Gm G y_Md_sortsPresses m_Md_sortsPresses 0 0 0 [vr G 189] n SH σ (zV n SH (fun σ' => (∀ a, a ≠ 207 → σ' a = σ a) ∧ ∀ j, j < (S 0 8).toNat → σ' 207 j = zord (S 9) (S 0 8).toNat j)) := by
  refine g_enter (L := [(0, _)]) (by decide) rfl rfl rfl (Nat.le_of_ble_eq_true rfl) (fun X => ?_)
  have e0 := hS.n
  have e8 := hS.p
  have hN := hS.N
  have hz : zN S = (S 0 0).toNat := rfl
  refine g_iconst (a := 0) (by decide +kernel) ?_
  refine g_istore_n (i := 1) (L' := [(0, _), (1, _)]) (by decide +kernel) rfl rfl ?_
  exact w_Md_sortsPresses hn hS ((S 0 8).toNat + 1) 0 _ σ rfl (fun _ _ => rfl) (fun j hj => by omega) (by omega) (by omega)
theorem w_Md_samePasses {G : zG} {X : zX} {n : Nat} {σ : zSt} {s p K : Nat} {x : Int} {S : zSt} (hn : 220 ≤ n) (hS : zMc σ S) (hs : s < 8) (hp : p < 8) (hK : K ≤ zN S) (hr : ∀ j, j < K → zrl (σ 204 (12 * s + j)) ∧ zrl (σ 204 (12 * p + j)))  : ∀ (m : Nat) (f : Nat) (x4 : Int), (-1 ≤ x4 ∧ x4 < K) → x4 < f → zsame (S 2) (fun j => σ 204 (12 * s + j)) (fun j => σ 204 (12 * p + j)) 12 x = zsame (S 2) (fun j => σ 204 (12 * s + j)) (fun j => σ 204 (12 * p + j)) f x4 → x4 < m - 1 → Go G X m_Md_samePasses (1, 0, 0, 0, 0) n SH σ 3 [(0, vr G 189), (1, vi (s : Int)), (2, vi (p : Int)), (3, vi x), (4, vi x4)] [] (zI n SH (fun a σ' => a = (if zsame (S 2) (fun j => σ 204 (12 * s + j)) (fun j => σ 204 (12 * p + j)) 12 x = true then 1 else 0) ∧ σ' = σ)) := by
  intro m
  induction m with
  | zero => intro f x4 h4 hf e1 hm; exact absurd hm (by omega)
  | succ m ih =>
    intro f x4 h4 hf e1 hm
    have e0 := hS.n
    have e8 := hS.p
    have hN := hS.N
    have hz : zN S = (S 0 0).toNat := rfl
    obtain ⟨d, r, hv⟩ := hS.2.2.1
    refine g_iload (i := 4) (by decide +kernel) rfl ?_
    refine g_if_lt (off := 44) (tgt := 49) (by decide +kernel) (by decide) ⟨by omega, by omega⟩ (fun h5 => ?_) (fun h5 => ?_)
    · refine g_iconst (a := 1) (by decide +kernel) ?_
      refine g_retI (by decide +kernel) rfl (Or.inr ⟨rfl, by omega⟩) ⟨by decide, by decide⟩ ?_
      have ex : x4 = -1 := by omega
      refine ⟨?_, rfl⟩
      rw [e1, ex]
      cases f with
      | zero => rfl
      | succ f => rw [zsame_s, if_pos rfl]; rfl
    · obtain ⟨y, rfl⟩ := Int.eq_ofNat_of_zero_le (show 0 ≤ x4 by omega)
      have hy : y < zN S := by omega
      have rr := hr y (by omega)
      obtain ⟨f, rfl⟩ : ∃ g, f = g + 1 := ⟨f - 1, by omega⟩
      rw [zsame_s _ _ _ f, if_neg (by omega), Int.toNat_natCast] at e1
      have ka := hS.ar hy
      have tk := hv.2.1 y hy
      refine g_aload_n (i := 0) (by decide +kernel) rfl ?_
      refine g_getr f_Md_94 (by decide +kernel) (by omega) rfl rfl ?_
      refine g_bipush (a := 12) (by decide +kernel) (by decide) ?_
      refine g_iload_n (i := 1) (by decide +kernel) rfl ?_
      refine g_imul (by decide +kernel) ?_
      refine g_iload (i := 4) (by decide +kernel) rfl ?_
      refine g_iadd (by decide +kernel) ?_
      refine g_lald (j := ((12 * s) + y)) (by decide +kernel) (by omega) rfl (by omega) (by omega) (by decide) ?_
      refine g_aload_n (i := 0) (by decide +kernel) rfl ?_
      refine g_getr f_Md_94 (by decide +kernel) (by omega) rfl rfl ?_
      refine g_bipush (a := 12) (by decide +kernel) (by decide) ?_
      refine g_iload_n (i := 2) (by decide +kernel) rfl ?_
      refine g_imul (by decide +kernel) ?_
      refine g_iload (i := 4) (by decide +kernel) rfl ?_
      refine g_iadd (by decide +kernel) ?_
      refine g_lald (j := ((12 * p) + y)) (by decide +kernel) (by omega) rfl (by omega) (by omega) (by decide) ?_
      refine g_lcmp (by decide +kernel) rr.1 rr.2 ?_
      refine g_if_eq (off := 5) (tgt := 38) (by decide +kernel) (by decide) zcmp_r (fun h33 => ?_) (fun h33 => ?_)
      · have h33 := zcmp_eq.mp h33
        refine g_aload_n (i := 0) (by decide +kernel) rfl ?_
        refine g_iload (i := 4) (by decide +kernel) rfl ?_
        refine g_cVI (st := _) (c_Md_around (k := y) hn (by omega)) k_Md_around l_Md_169 (by decide +kernel) (by omega) rfl rfl rfl rfl (Nat.le_of_ble_eq_true rfl) (by decide) ⟨by decide, by decide⟩ ?_
        rintro a9 σ9 ⟨ea9, hσ9⟩
        obtain rfl := hσ9.symm
        subst ea9
        refine g_istore (i := 4) (L' := [(0, _), (1, _), (2, _), (3, _), (4, _)]) (by decide +kernel) rfl rfl ?_
        refine g_goto (off := -43) (tgt := 3) (by decide +kernel) (by decide) ?_
        rw [if_pos (by assumption)] at e1
        exact ih f _ (by omega) (by omega) (by rw [ka]; exact e1) (by push_cast at *; omega)
      · have h33 := zcmp_ne.mp h33
        refine g_iconst (a := 0) (by decide +kernel) ?_
        refine g_retI (by decide +kernel) rfl (Or.inr ⟨rfl, by omega⟩) ⟨by decide, by decide⟩ ?_
        rw [if_neg (by assumption)] at e1
        exact ⟨by rw [e1]; rfl, rfl⟩
theorem c_Md_samePasses {G : zG} {n : Nat} {σ : zSt} {s p K : Nat} {x : Int} {S : zSt} (hn : 220 ≤ n) (hS : zMc σ S) (hs : s < 8) (hp : p < 8) (hK : K ≤ zN S) (hr : ∀ j, j < K → zrl (σ 204 (12 * s + j)) ∧ zrl (σ 204 (12 * p + j))) (hx : -1 ≤ x ∧ x < K) : Gm G y_Md_samePasses m_Md_samePasses 1 0 0 [vr G 189, vi (s : Int), vi (p : Int), vi x] n SH σ (zI n SH (fun a σ' => a = (if zsame (S 2) (fun j => σ 204 (12 * s + j)) (fun j => σ 204 (12 * p + j)) 12 x = true then 1 else 0) ∧ σ' = σ)) := by
  refine g_enter (L := [(0, _), (1, _), (2, _), (3, _)]) (by decide) rfl rfl rfl (Nat.le_of_ble_eq_true rfl) (fun X => ?_)
  have e0 := hS.n
  have e8 := hS.p
  have hN := hS.N
  have hz : zN S = (S 0 0).toNat := rfl
  refine g_iload_n (i := 3) (by decide +kernel) rfl ?_
  refine g_istore (i := 4) (L' := [(0, _), (1, _), (2, _), (3, _), (4, _)]) (by decide +kernel) rfl rfl ?_
  exact w_Md_samePasses hn hS hs hp hK hr 14 12 _ hx (by omega) rfl (by omega)
