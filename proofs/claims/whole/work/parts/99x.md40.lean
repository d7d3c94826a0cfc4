/-! READING in the reference: by whom those within a heap start -/
theorem zfst_but {A : zAb} {c : Nat} {x : Int} (hd : ∀ i j, i < zN A.D → j < zN A.D → A.nm i = A.nm j → i = j) : zfst (fun j => decide (A.D 2 j = A.op ∧ j ≠ c ∧ A.nm j = x)) (zN A.D) = if znmd A x = (c : Int) then -1 else znmd A x := by
  unfold znmd
  rcases zfst_spec (p := fun j => decide (A.D 2 j = A.op ∧ A.nm j = x)) (n := zN A.D) with ⟨e, h⟩ | ⟨i, e, hi, hp, hb⟩
  · rw [e, if_neg (by omega)]
    exact zfst_none (fun k hk => decide_eq_false (fun y => by have := of_decide_eq_false (h k hk); exact this ⟨y.1, y.2.2⟩))
  · have hp := of_decide_eq_true hp
    rw [e]
    by_cases z : i = c
    · rw [if_pos (by rw [z])]
      exact zfst_none (fun k hk => decide_eq_false (fun y => y.2.1 (by rw [← z]; exact hd k i hk hi (y.2.2.trans hp.2.symm))))
    · rw [if_neg (by omega)]
      exact zfst_at (fun k hk => decide_eq_false (fun y => by have := of_decide_eq_false (hb k hk); exact this ⟨y.1, y.2.2⟩)) (decide_eq_true ⟨hp.1, z, hp.2⟩) hi
/-- running round is a ring, among those that are bound -/
theorem zrun_rng {A : zAb} {n0 : Nat} (hA : zAi n0 A) (hv : zAv A) (h0 : 0 ≤ A.op) (hk : A.D 1 A.op.toNat = 1) (nb : ¬ zbad A) : (zRng (zAD A (zbd A (zN A.D))) → ∃ j, j < zN A.D ∧ A.D 2 j = A.op ∧ zrun (zbd A (zN A.D)) 13 j = true) ∧ (¬ zRng (zAD A (zbd A (zN A.D))) → ∀ j, j < zN A.D → A.D 2 j = A.op → zrun (zbd A (zN A.D)) 13 j = false) := by
  have cl := zbd_cl nb
  have hun : ∀ j, j < zN A.D → A.D 2 j = A.op → zby (A.D 4 j) = true → A.D 5 j = -1 := fun j hj h2 h4 => hv.2.2.2.2.2.2 j hj h4 (by rw [h2]; exact zOpn_rf _ _)
  obtain ⟨T, eT⟩ : ∃ T, T = zbd A (zN A.D) := ⟨_, rfl⟩
  have t0 : zN T = zN A.D := by unfold zN; rw [eT, zbd_oth A _ (by decide)]
  have t2 : T 2 = A.D 2 := by rw [eT, zbd_oth A _ (by decide)]
  have t4 : T 4 = A.D 4 := by rw [eT, zbd_oth A _ (by decide)]
  have cl2 : ∀ j, j < zN A.D → A.D 2 j = A.op → zby (T 4 j) = true → 0 ≤ T 5 j ∧ (T 5 j).toNat < zN A.D ∧ A.D 2 (T 5 j).toNat = A.op := by
    intro j hj h2 h4
    have g := cl j (by show j < zN (zbd A (zN A.D)); rw [← eT, t0]; exact hj) (by show zbd A (zN A.D) 2 j = _; rw [← eT, t2]; exact h2) (by show zby (zbd A (zN A.D) 4 j) = true; rw [← eT]; exact h4)
    have g2 : 0 ≤ zbd A (zN A.D) 5 j ∧ (zbd A (zN A.D) 5 j).toNat < zN (zbd A (zN A.D)) ∧ zbd A (zN A.D) 2 (zbd A (zN A.D) 5 j).toNat = A.op := g
    rw [← eT, t0, t2] at g2
    exact g2
  rw [← eT]
  constructor
  · rintro ⟨j, hj, h2, h4, hl⟩
    have hj : j < zN T := hj
    have h2 : T 2 j = A.op := h2
    have h4 : zby (T 4 j) = true := h4
    have hl : zlead (T 4) (T 5) (j : Int) 12 (T 5 j) = true := hl
    rw [t0] at hj
    rw [t2] at h2
    have key : ∀ f x, x < zN A.D → A.D 2 x = A.op → (∃ g, zlead (T 4) (T 5) (j : Int) g (x : Int) = true) → zrun T f x = true := by
      intro f
      induction f with
      | zero => intro x _ _ _; rfl
      | succ f ih =>
        intro x hx h2x ⟨g, hg⟩
        rw [zrun_s]
        by_cases z : x = j
        · have o := cl2 j hj h2 h4
          rw [z, h4, Bool.true_and]
          exact ih _ o.2.1 o.2.2 ⟨12, by rw [show (((T 5 j).toNat : Nat) : Int) = T 5 j by omega]; exact hl⟩
        · cases g with
          | zero => exact absurd hg (by show ¬ false = true; decide)
          | succ g =>
            rw [zlead_s, if_neg (by omega), Int.toNat_natCast] at hg
            by_cases bx : zby (T 4 x) = true
            · rw [if_pos bx] at hg
              have o := cl2 x hx h2x bx
              rw [bx, Bool.true_and]
              exact ih _ o.2.1 o.2.2 ⟨g, by rw [show (((T 5 x).toNat : Nat) : Int) = T 5 x by omega]; exact hg⟩
            · rw [if_neg bx] at hg; exact absurd hg (by decide)
    exact ⟨j, hj, h2, key 13 j hj h2 ⟨1, by rw [zlead_s, if_pos rfl]⟩⟩
  · intro nr
    have F := zneu_bd hv.1 hA.2.1 nb (by rw [← eT]; exact nr) h0 hk hun (zN A.D) (Nat.le_refl _)
    rw [← eT] at F
    obtain ⟨⟨d, r, V⟩, -⟩ := F.2.1
    have key : ∀ f x, x < zN A.D → A.D 2 x = A.op → zrun (zneu T) f x = zrun T f x := by
      intro f
      induction f with
      | zero => intro x _ _; rfl
      | succ f ih =>
        intro x hx h2x
        rw [zrun_s, zrun_s, zneu_o T (show (5 : Nat) ≠ 4 by decide)]
        have e4 : zneu T 4 x = T 4 x := zneu_n (fun y => by have o := cl2 x hx h2x y.2.1; have := y.2.2; omega)
        rw [e4]
        by_cases bx : zby (T 4 x) = true
        · have o := cl2 x hx h2x bx
          rw [ih _ o.2.1 o.2.2]
        · rw [Bool.eq_false_iff.mpr bx, Bool.false_and, Bool.false_and]
    intro j hj h2
    have jN : j < zN (zneu T) := by rw [zneu_N, t0]; exact hj
    have l := zrk_le (S := zneu T) (r := r) (k := j) jN
    have v1 := V.1.1
    rw [← key 13 j hj h2]
    exact zrun_val V 13 j jN (by omega)
theorem w_Md_namedIn {G : zG} {X : zX} {n : Nat} {σ : zSt} {n0 : Nat} {A : zAb} {o : Nat} (hn : 220 ≤ n) (hn0 : n0 ≤ 600) (hA : zAi n0 A) (hv : zAv A) (ho : A.op = (o : Int)) {c : Nat} {x y : Int} (hD2 : ∀ j, j < zN A.D → σ 190 (1760 + j) = A.D 2 j) (hc0 : σ 190 1746 = A.D 0 0) (hnm : ∀ j, j < zN A.D → zNme (A.nm j) (σ 198 j)) (hc : c < 12) (hx : zNme x y)  : ∀ (m : Nat) (i : Nat) (x5 : Int), x5 = (i : Int) → i ≤ zN A.D → (∀ j, j < i → ¬ (A.D 2 j = A.op ∧ j ≠ c ∧ A.nm j = x)) → zN A.D < i + m → Go G X m_Md_namedIn (0, 0, 0, 0, 0) n SH σ 3 [(0, vr G 189), (1, vi (o : Int)), (2, vi (c : Int)), (3, vl y), (5, vi x5)] [] (zI n SH (fun a σ' => a = zfst (fun j => decide (A.D 2 j = A.op ∧ j ≠ c ∧ A.nm j = x)) (zN A.D) ∧ σ' = σ)) := by
  intro m
  induction m with
  | zero => intro i x5 e5 hi hno hm; exact absurd hm (by omega)
  | succ m ih =>
    intro i x5 e5 hi hno hm
    subst e5
    have hG := hA.2.1
    have hN : zN A.D = (A.D 0 0).toNat := rfl
    have h12 : 0 ≤ A.D 0 0 ∧ A.D 0 0 ≤ 12 := ⟨hG.1.1, hG.1.2.1⟩
    have g2 : ∀ j, j < zN A.D → -1 ≤ A.D 2 j ∧ A.D 2 j ≤ 11 := fun j hj => (hG.2.1 j (by omega)).2.1
    have g4 : ∀ j, j < zN A.D → 0 ≤ A.D 4 j ∧ A.D 4 j ≤ 3 := fun j hj => (hG.2.1 j (by omega)).2.2.2.1
    have op := hA.2.2.1
    have yr := hx.r
    refine g_iload (i := 5) (by decide +kernel) rfl ?_
    refine g_aload_n (i := 0) (by decide +kernel) rfl ?_
    refine g_getr f_Md_7 (by decide +kernel) (by omega) rfl rfl ?_
    refine g_sipush (a := 1746) (by decide +kernel) (by decide) ?_
    refine g_iald (j := 1746) (by decide +kernel) (by omega) rfl rfl (by omega) (by decide) ?_
    refine g_icmp_ge (off := 45) (tgt := 58) (by decide +kernel) (by decide) ⟨by omega, by omega⟩ ⟨by omega, by omega⟩ (fun h13 => ?_) (fun h13 => ?_)
    · refine g_iconst (a := -1) (by decide +kernel) ?_
      refine g_retI (by decide +kernel) rfl (Or.inl rfl) ⟨by decide, by decide⟩ ?_
      exact ⟨(zfst_none (fun j hj => decide_eq_false (hno j (by omega)))).symm, rfl⟩
    · have q2 := hD2 i (by omega)
      have r2 := g2 i (by omega)
      have nmi := hnm i (by omega)
      have nr := nmi.r
      refine g_aload_n (i := 0) (by decide +kernel) rfl ?_
      refine g_getr f_Md_7 (by decide +kernel) (by omega) rfl rfl ?_
      refine g_sipush (a := 1760) (by decide +kernel) (by decide) ?_
      refine g_iload (i := 5) (by decide +kernel) rfl ?_
      refine g_iadd (by decide +kernel) ?_
      refine g_iald (j := 1760 + i) (by decide +kernel) (by omega) rfl (by omega) (by omega) (by decide) ?_
      refine g_iload_n (i := 1) (by decide +kernel) rfl ?_
      refine g_icmp_ne (off := 24) (tgt := 52) (by decide +kernel) (by decide) ⟨by omega, by omega⟩ ⟨by omega, by omega⟩ (fun h28 => ?_) (fun h28 => ?_)
      · refine g_iinc (i := 5) (b := 1) (L' := [(0, _), (1, _), (2, _), (3, _), (5, _)]) (by decide +kernel) rfl rfl rfl ?_
        refine g_goto (off := -52) (tgt := 3) (by decide +kernel) (by decide) ?_
        refine ih (i + 1) _ (by push_cast; rfl) (by omega) (fun j hj => ?_) (by omega)
        rcases Nat.lt_or_ge j i with z | z
        · exact hno j z
        · rw [show j = i by omega]
          intro z
          first
            | omega
            | (have h45b : ¬ σ 198 i = y := h46
               exact h45b ((nmi.iff hx).mp z.2.2))
      · refine g_iload (i := 5) (by decide +kernel) rfl ?_
        refine g_iload_n (i := 2) (by decide +kernel) rfl ?_
        refine g_icmp_eq (off := 18) (tgt := 52) (by decide +kernel) (by decide) ⟨by omega, by omega⟩ ⟨by omega, by omega⟩ (fun h34 => ?_) (fun h34 => ?_)
        · refine g_iinc (i := 5) (b := 1) (L' := [(0, _), (1, _), (2, _), (3, _), (5, _)]) (by decide +kernel) rfl rfl rfl ?_
          refine g_goto (off := -52) (tgt := 3) (by decide +kernel) (by decide) ?_
          refine ih (i + 1) _ (by push_cast; rfl) (by omega) (fun j hj => ?_) (by omega)
          rcases Nat.lt_or_ge j i with z | z
          · exact hno j z
          · rw [show j = i by omega]
            intro z
            first
              | omega
              | (have h45b : ¬ σ 198 i = y := h46
                 exact h45b ((nmi.iff hx).mp z.2.2))
        · refine g_aload_n (i := 0) (by decide +kernel) rfl ?_
          refine g_getr f_Md_76 (by decide +kernel) (by omega) rfl rfl ?_
          refine g_iload (i := 5) (by decide +kernel) rfl ?_
          refine g_lald (j := i) (by decide +kernel) (by omega) rfl rfl (by omega) (by decide) ?_
          refine g_lload_n (i := 3) (by decide +kernel) rfl ?_
          refine g_lcmp (by decide +kernel) ⟨by omega, by omega⟩ ⟨by omega, by omega⟩ ?_
          refine g_if_ne (off := 6) (tgt := 52) (by decide +kernel) (by decide) zcmp_r (fun h46 => ?_) (fun h46 => ?_)
          · have h46 := zcmp_ne.mp h46
            refine g_iinc (i := 5) (b := 1) (L' := [(0, _), (1, _), (2, _), (3, _), (5, _)]) (by decide +kernel) rfl rfl rfl ?_
            refine g_goto (off := -52) (tgt := 3) (by decide +kernel) (by decide) ?_
            refine ih (i + 1) _ (by push_cast; rfl) (by omega) (fun j hj => ?_) (by omega)
            rcases Nat.lt_or_ge j i with z | z
            · exact hno j z
            · rw [show j = i by omega]
              intro z
              first
                | omega
                | (have h45b : ¬ σ 198 i = y := h46
                   exact h45b ((nmi.iff hx).mp z.2.2))
          · have h46 := zcmp_eq.mp h46
            refine g_iload (i := 5) (by decide +kernel) rfl ?_
            refine g_retI (by decide +kernel) rfl (Or.inl rfl) ⟨by decide, by decide⟩ ?_
            have e46 : σ 198 i = y := h46
            exact ⟨(zfst_at (fun j hj => decide_eq_false (hno j hj)) (decide_eq_true ⟨by omega, by omega, (nmi.iff hx).mpr e46⟩) (by omega)).symm, rfl⟩
theorem c_Md_namedIn {G : zG} {n : Nat} {σ : zSt} {n0 : Nat} {A : zAb} {o : Nat} (hn : 220 ≤ n) (hn0 : n0 ≤ 600) (hA : zAi n0 A) (hv : zAv A) (ho : A.op = (o : Int)) {c : Nat} {x y : Int} (hD2 : ∀ j, j < zN A.D → σ 190 (1760 + j) = A.D 2 j) (hc0 : σ 190 1746 = A.D 0 0) (hnm : ∀ j, j < zN A.D → zNme (A.nm j) (σ 198 j)) (hc : c < 12) (hx : zNme x y)  : Gm G y_Md_namedIn m_Md_namedIn 0 0 0 [vr G 189, vi (o : Int), vi (c : Int), vl y] n SH σ (zI n SH (fun a σ' => a = (if znmd A x = (c : Int) then -1 else znmd A x) ∧ σ' = σ)) := by
  refine g_enter (L := [(0, _), (1, _), (2, _), (3, _)]) (by decide) rfl rfl rfl (Nat.le_of_ble_eq_true rfl) (fun X => ?_)
  refine g_iconst (a := 0) (by decide +kernel) ?_
  refine g_istore (i := 5) (L' := [(0, _), (1, _), (2, _), (3, _), (5, _)]) (by decide +kernel) rfl rfl ?_
  rw [← zfst_but hv.2.2.2.2.2.1]
  exact w_Md_namedIn hn hn0 hA hv ho hD2 hc0 hnm hc hx (zN A.D + 1) 0 _ rfl (by omega) (fun j hj => absurd hj (by omega)) (by omega)
theorem t_Md_binds102F {G : zG} {X : zX} {n : Nat} {σ : zSt} {σ0 : zSt} {f : Int × Nat} {Q : zSt → Prop} (hn : 220 ≤ n) (hF : zRft σ0 f σ) (hQ : Q σ) {o x2 : Int} (z2 : zr x2)  : Go G X m_Md_binds (3, 0, 0, 0, 0) n SH σ 102 [(0, vr G 189), (1, vi o), (2, vi x2)] [] (zV n SH (fun σ' => Q σ')) := by
  have f1 := hF.1
  have f2 := hF.2.1
  have f3 := hF.2.2.2.1
  refine g_iload_n (i := 2) (by decide +kernel) rfl ?_
  refine g_aload_n (i := 0) (by decide +kernel) rfl ?_
  refine g_getr f_Md_7 (by decide +kernel) (by omega) rfl rfl ?_
  refine g_sipush (a := 1746) (by decide +kernel) (by decide) ?_
  refine g_iald (j := 1746) (by decide +kernel) (by omega) rfl rfl (by omega) (by decide) ?_
  refine g_icmp_ge (off := 52) (tgt := 163) (by decide +kernel) (by decide) ⟨by omega, by omega⟩ ⟨by omega, by omega⟩ (fun h111 => ?_) (fun h111 => ?_)
  · refine g_retV (by decide +kernel) rfl ⟨by decide, by decide⟩ ?_
    exact hQ
  · refine g_aload_n (i := 0) (by decide +kernel) rfl ?_
    refine g_geti f_Md_230 (by decide +kernel) (by omega) rfl rfl ?_
    refine g_if_ne (off := 45) (tgt := 163) (by decide +kernel) (by decide) ⟨by omega, by omega⟩ (fun h118 => ?_) (fun h118 => ?_)
    · refine g_retV (by decide +kernel) rfl ⟨by decide, by decide⟩ ?_
      exact hQ
    · exact absurd h118 (by omega)
theorem t_Md_binds2F {G : zG} {X : zX} {n : Nat} {σ : zSt} {σ0 : zSt} {f : Int × Nat} {Q : zSt → Prop} (hn : 220 ≤ n) (hF : zRft σ0 f σ) (hQ : Q σ) {o x2 : Int} (z2 : zr x2)  : Go G X m_Md_binds (3, 0, 0, 0, 0) n SH σ 2 [(0, vr G 189), (1, vi o), (2, vi x2)] [] (zV n SH (fun σ' => Q σ')) := by
  have f1 := hF.1
  have f2 := hF.2.1
  have f3 := hF.2.2.2.1
  refine g_iload_n (i := 2) (by decide +kernel) rfl ?_
  refine g_aload_n (i := 0) (by decide +kernel) rfl ?_
  refine g_getr f_Md_7 (by decide +kernel) (by omega) rfl rfl ?_
  refine g_sipush (a := 1746) (by decide +kernel) (by decide) ?_
  refine g_iald (j := 1746) (by decide +kernel) (by omega) rfl rfl (by omega) (by decide) ?_
  refine g_icmp_ge (off := 89) (tgt := 100) (by decide +kernel) (by decide) ⟨by omega, by omega⟩ ⟨by omega, by omega⟩ (fun h11 => ?_) (fun h11 => ?_)
  · refine g_iconst (a := 0) (by decide +kernel) ?_
    refine g_istore_n (i := 2) (L' := [(0, _), (1, _), (2, _)]) (by decide +kernel) rfl rfl ?_
    exact t_Md_binds102F hn hF hQ ⟨by decide, by decide⟩
  · refine g_aload_n (i := 0) (by decide +kernel) rfl ?_
    refine g_geti f_Md_230 (by decide +kernel) (by omega) rfl rfl ?_
    refine g_if_ne (off := 82) (tgt := 100) (by decide +kernel) (by decide) ⟨by omega, by omega⟩ (fun h18 => ?_) (fun h18 => ?_)
    · refine g_iconst (a := 0) (by decide +kernel) ?_
      refine g_istore_n (i := 2) (L' := [(0, _), (1, _), (2, _)]) (by decide +kernel) rfl rfl ?_
      exact t_Md_binds102F hn hF hQ ⟨by decide, by decide⟩
    · exact absurd h18 (by omega)
theorem c_Md_bindsF {G : zG} {n : Nat} {σ : zSt} {σ0 : zSt} {f : Int × Nat} {o : Int} (hn : 220 ≤ n) (hF : zRft σ0 f σ)  : Gm G y_Md_binds m_Md_binds 3 0 0 [vr G 189, vi o] n SH σ (zV n SH (fun σ' => σ' = σ)) := by
  refine g_enter (L := [(0, _), (1, _)]) (by decide) rfl rfl rfl (Nat.le_of_ble_eq_true rfl) (fun X => ?_)
  refine g_iconst (a := 0) (by decide +kernel) ?_
  refine g_istore_n (i := 2) (L' := [(0, _), (1, _), (2, _)]) (by decide +kernel) rfl rfl ?_
  exact t_Md_binds2F (Q := fun σ' => σ' = σ) hn hF rfl ⟨by decide, by decide⟩
theorem w_Md_binds2 {G : zG} {X : zX} {n : Nat} {b : Nat → Int} {n0 : Nat} {σ0 : zSt} {A : zAb} {o : Nat} (hn : 220 ≤ n) (hn0 : n0 ≤ 600) (hA : zAi n0 A) (hv : zAv A) (ho : A.op = (o : Int)) (hk1 : A.D 1 A.op.toNat = 1) (nb : ¬ zbad A) {τ : zSt} (hR : zRr b n0 σ0 (zAD A (zbd A (zN A.D))) τ)  : ∀ (m : Nat) (i : Nat) (x2 : Int), x2 = (i : Int) → i ≤ zN A.D → (∀ j, j < i → A.D 2 j = A.op → zrun (zbd A (zN A.D)) 13 j = false) → zN A.D < i + m → Go G X m_Md_binds (3, 0, 0, 0, 0) n SH τ 102 [(0, vr G 189), (1, vi (o : Int)), (2, vi x2)] [] (zV n SH (fun σ' => (zbad A ∧ zRft σ0 (3, A.q) σ') ∨ (¬ zbad A ∧ zRng (zAD A (zbd A (zN A.D))) ∧ zRft σ0 (7, A.q) σ') ∨ (¬ zbad A ∧ ¬ zRng (zAD A (zbd A (zN A.D))) ∧ zRr b n0 σ0 (zAD A (zbd A (zN A.D))) σ'))) := by
  intro m
  induction m with
  | zero => intro i x2 e2 hi hno hm; exact absurd hm (by omega)
  | succ m ih =>
    intro i x2 e2 hi hno hm
    subst e2
    have hG := hA.2.1
    have hN : zN A.D = (A.D 0 0).toNat := rfl
    have h12 : 0 ≤ A.D 0 0 ∧ A.D 0 0 ≤ 12 := ⟨hG.1.1, hG.1.2.1⟩
    have g2 : ∀ j, j < zN A.D → -1 ≤ A.D 2 j ∧ A.D 2 j ≤ 11 := fun j hj => (hG.2.1 j (by omega)).2.1
    have g4 : ∀ j, j < zN A.D → 0 ≤ A.D 4 j ∧ A.D 4 j ≤ 3 := fun j hj => (hG.2.1 j (by omega)).2.2.2.1
    have op := hA.2.2.1
    have eN : zN (zbd A (zN A.D)) = zN A.D := by unfold zN; rw [zbd_oth A _ (by decide)]
    have hQ := hR.1
    have h14 := hQ.1
    have ht := hQ.2.1
    have tr := zTt_r (b := b) (n0 := n0) (q := A.q)
    have sr := zsrt_r (zTt b n0 A.q)
    have e18 : τ 189 18 = zsrt (zTt b n0 A.q) := ht.2.1
    have E := hR.2.2.2
    have c0 : τ 190 1746 = A.D 0 0 := by
      have z : τ 190 1746 = zbd A (zN A.D) 0 0 := E.1.1
      rw [z, zbd_oth A _ (by decide)]
    have E2 : ∀ j, j < zN A.D → τ 190 (1760 + j) = A.D 2 j := fun j hj => by
      have z : τ 190 (1760 + j) = zbd A (zN A.D) 2 j := E.2.1 j (by show j < zN (zbd A (zN A.D)); rw [eN]; exact hj) 2 (by decide) (by decide)
      rw [z, zbd_oth A _ (by decide)]
    have E4 : ∀ j, j < zN A.D → τ 190 (1892 + j) = A.D 4 j := fun j hj => by
      have z : τ 190 (1892 + j) = zbd A (zN A.D) 4 j := E.2.1 j (by show j < zN (zbd A (zN A.D)); rw [eN]; exact hj) 4 (by decide) (by decide)
      rw [z, zbd_oth A _ (by decide)]
    have E5 : ∀ j, j < zN A.D → τ 190 (1904 + j) = zbd A (zN A.D) 5 j := fun j hj => E.2.1 j (by show j < zN (zbd A (zN A.D)); rw [eN]; exact hj) 5 (by decide) (by decide)
    have cl := zbd_cl nb
    have rr := zrun_rng hA hv (by omega) hk1 nb
    have cl2 : ∀ j, j < zN A.D → A.D 2 j = A.op → zby (zbd A (zN A.D) 4 j) = true → 0 ≤ zbd A (zN A.D) 5 j ∧ (zbd A (zN A.D) 5 j).toNat < zN A.D ∧ A.D 2 (zbd A (zN A.D) 5 j).toNat = A.op := by
      intro j hj h2 h4
      have g := cl j (by show j < zN (zbd A (zN A.D)); rw [eN]; exact hj) (by show zbd A (zN A.D) 2 j = _; rw [zbd_oth A _ (by decide)]; exact h2) h4
      have g2 : 0 ≤ zbd A (zN A.D) 5 j ∧ (zbd A (zN A.D) 5 j).toNat < zN (zbd A (zN A.D)) ∧ zbd A (zN A.D) 2 (zbd A (zN A.D) 5 j).toNat = A.op := g
      rw [eN, zbd_oth A _ (show (2 : Nat) ≠ 5 by decide)] at g2
      exact g2
    have hDD : ∀ x, (x < zN A.D ∧ A.D 2 x = A.op) → x < 12 ∧ τ 190 (1746 + 146 + x) = zbd A (zN A.D) 4 x ∧ (0 ≤ zbd A (zN A.D) 4 x ∧ zbd A (zN A.D) 4 x ≤ 3) ∧ (zby (zbd A (zN A.D) 4 x) = true → τ 190 (1746 + 158 + x) = zbd A (zN A.D) 5 x ∧ 0 ≤ zbd A (zN A.D) 5 x ∧ ((zbd A (zN A.D) 5 x).toNat < zN A.D ∧ A.D 2 (zbd A (zN A.D) 5 x).toNat = A.op)) := by
      intro x hx
      have a4 := E4 x hx.1
      have a5 := E5 x hx.1
      have b4 := g4 x hx.1
      rw [zbd_oth A _ (show (4 : Nat) ≠ 5 by decide)]
      refine ⟨by omega, a4, b4, fun y => ⟨a5, ?_⟩⟩
      exact cl2 x hx.1 hx.2 (by rw [zbd_oth A _ (show (4 : Nat) ≠ 5 by decide)]; exact y)
    refine g_iload_n (i := 2) (by decide +kernel) rfl ?_
    refine g_aload_n (i := 0) (by decide +kernel) rfl ?_
    refine g_getr f_Md_7 (by decide +kernel) (by omega) rfl rfl ?_
    refine g_sipush (a := 1746) (by decide +kernel) (by decide) ?_
    refine g_iald (j := 1746) (by decide +kernel) (by omega) rfl rfl (by omega) (by decide) ?_
    refine g_icmp_ge (off := 52) (tgt := 163) (by decide +kernel) (by decide) ⟨by omega, by omega⟩ ⟨by omega, by omega⟩ (fun h111 => ?_) (fun h111 => ?_)
    · refine g_retV (by decide +kernel) rfl ⟨by decide, by decide⟩ ?_
      first
        | (exfalso; exact h118 h14)
        | (refine Or.inr (Or.inr ⟨nb, fun y => ?_, hR⟩)
           obtain ⟨j, hj, h2, hz⟩ := rr.1 y
           rw [hno j (by omega) h2] at hz
           exact absurd hz (by decide))
    · have q2 := E2 i (by omega)
      have r2 := g2 i (by omega)
      refine g_aload_n (i := 0) (by decide +kernel) rfl ?_
      refine g_geti f_Md_230 (by decide +kernel) (by omega) rfl rfl ?_
      refine g_if_ne (off := 45) (tgt := 163) (by decide +kernel) (by decide) ⟨by omega, by omega⟩ (fun h118 => ?_) (fun h118 => ?_)
      · refine g_retV (by decide +kernel) rfl ⟨by decide, by decide⟩ ?_
        first
          | (exfalso; exact h118 h14)
          | (refine Or.inr (Or.inr ⟨nb, fun y => ?_, hR⟩)
             obtain ⟨j, hj, h2, hz⟩ := rr.1 y
             rw [hno j (by omega) h2] at hz
             exact absurd hz (by decide))
      · refine g_aload_n (i := 0) (by decide +kernel) rfl ?_
        refine g_getr f_Md_7 (by decide +kernel) (by omega) rfl rfl ?_
        refine g_sipush (a := 1760) (by decide +kernel) (by decide) ?_
        refine g_iload_n (i := 2) (by decide +kernel) rfl ?_
        refine g_iadd (by decide +kernel) ?_
        refine g_iald (j := 1760 + i) (by decide +kernel) (by omega) rfl (by omega) (by omega) (by decide) ?_
        refine g_iload_n (i := 1) (by decide +kernel) rfl ?_
        refine g_icmp_ne (off := 25) (tgt := 157) (by decide +kernel) (by decide) ⟨by omega, by omega⟩ ⟨by omega, by omega⟩ (fun h132 => ?_) (fun h132 => ?_)
        · refine g_iinc (i := 2) (b := 1) (L' := [(0, _), (1, _), (2, _)]) (by decide +kernel) rfl rfl rfl ?_
          refine g_goto (off := -58) (tgt := 102) (by decide +kernel) (by decide) ?_
          first
            | (rcases hS with ⟨e, e2⟩ | ⟨e, e2⟩
               · obtain rfl := e2.symm
                 refine ih (i + 1) _ (by push_cast; rfl) (by omega) (fun j hj h2 => ?_) (by omega)
                 rcases Nat.lt_or_ge j i with z | z
                 · exact hno j z h2
                 · rw [show j = i by omega]; exact e
               · refine t_Md_binds102F hn e2 ?_ ⟨by omega, by omega⟩
                 refine Or.inr (Or.inl ⟨nb, ?_, e2⟩)
                 by_cases nr : zRng (zAD A (zbd A (zN A.D)))
                 · exact nr
                 · have := rr.2 nr i (by omega) (by omega)
                   rw [e] at this
                   exact absurd this (by decide))
            | (refine ih (i + 1) _ (by push_cast; rfl) (by omega) (fun j hj h2 => ?_) (by omega)
               rcases Nat.lt_or_ge j i with z | z
               · exact hno j z h2
               · exfalso
                 rw [show j = i by omega] at h2
                 omega)
        · refine g_aload_n (i := 0) (by decide +kernel) rfl ?_
          refine g_aload_n (i := 0) (by decide +kernel) rfl ?_
          refine g_sipush (a := 1746) (by decide +kernel) (by decide) ?_
          refine g_iload_n (i := 2) (by decide +kernel) rfl ?_
          refine g_cVI (st := _) (c_Md_isRound (x := i) (T := zbd A (zN A.D)) (D := fun x => x < zN A.D ∧ A.D 2 x = A.op) (b := 1746) hn (Or.inr rfl) hDD ⟨by omega, by omega⟩) k_Md_isRound l_Md_292 (by decide +kernel) (by omega) rfl rfl rfl rfl (Nat.le_of_ble_eq_true rfl) (by decide) ⟨by decide, by decide⟩ ?_
          rintro a9 σ9 ⟨ea9, hσ9⟩
          obtain rfl := hσ9.symm
          have a9r : a9 = 0 ∨ a9 = 1 := by rw [ea9]; exact zb01
          refine g_if_ne (off := 7) (tgt := 151) (by decide +kernel) (by decide) ⟨by omega, by omega⟩ (fun h144 => ?_) (fun h144 => ?_)
          · refine g_iconst (a := 0) (by decide +kernel) ?_
            refine g_bipush (a := 7) (by decide +kernel) (by decide) ?_
            refine g_cVV (st := _) (c_Md_wants hn ⟨by omega, by omega⟩ (fun _ => ⟨by omega, by omega⟩) ⟨by decide, by decide⟩ (by decide)) k_Md_wants l_Md_243 (by decide +kernel) (by omega) rfl rfl rfl rfl (Nat.le_of_ble_eq_true rfl) (by decide) ⟨by decide, by decide⟩ ?_
            rintro υ hυ
            have hS : (zrun (zbd A (zN A.D)) 13 i = false ∧ υ = τ) ∨ (zrun (zbd A (zN A.D)) 13 i = true ∧ zRft σ0 (7, A.q) υ) := by
              cases ez : zrun (zbd A (zN A.D)) 13 i with
              | false =>
                rw [ez, if_neg (by decide)] at ea9
                first
                  | exact Or.inl ⟨rfl, by rw [hυ, if_neg (by decide)]⟩
                  | (exfalso; omega)
              | true =>
                rw [ez, if_pos rfl] at ea9
                first
                  | (exfalso; omega)
                  | (refine Or.inr ⟨rfl, ?_⟩
                     rw [hυ, if_pos rfl]
                     have g := hQ.fl (k := 7) (by decide)
                     rw [if_neg (by decide)] at g
                     exact g)
            refine g_iinc (i := 2) (b := 1) (L' := [(0, _), (1, _), (2, _)]) (by decide +kernel) rfl rfl rfl ?_
            refine g_goto (off := -58) (tgt := 102) (by decide +kernel) (by decide) ?_
            first
              | (rcases hS with ⟨e, e2⟩ | ⟨e, e2⟩
                 · obtain rfl := e2.symm
                   refine ih (i + 1) _ (by push_cast; rfl) (by omega) (fun j hj h2 => ?_) (by omega)
                   rcases Nat.lt_or_ge j i with z | z
                   · exact hno j z h2
                   · rw [show j = i by omega]; exact e
                 · refine t_Md_binds102F hn e2 ?_ ⟨by omega, by omega⟩
                   refine Or.inr (Or.inl ⟨nb, ?_, e2⟩)
                   by_cases nr : zRng (zAD A (zbd A (zN A.D)))
                   · exact nr
                   · have := rr.2 nr i (by omega) (by omega)
                     rw [e] at this
                     exact absurd this (by decide))
              | (refine ih (i + 1) _ (by push_cast; rfl) (by omega) (fun j hj h2 => ?_) (by omega)
                 rcases Nat.lt_or_ge j i with z | z
                 · exact hno j z h2
                 · exfalso
                   rw [show j = i by omega] at h2
                   omega)
          · refine g_iconst (a := 1) (by decide +kernel) ?_
            refine g_goto (off := 4) (tgt := 152) (by decide +kernel) (by decide) ?_
            refine g_bipush (a := 7) (by decide +kernel) (by decide) ?_
            refine g_cVV (st := _) (c_Md_wants hn ⟨by omega, by omega⟩ (fun _ => ⟨by omega, by omega⟩) ⟨by decide, by decide⟩ (by decide)) k_Md_wants l_Md_243 (by decide +kernel) (by omega) rfl rfl rfl rfl (Nat.le_of_ble_eq_true rfl) (by decide) ⟨by decide, by decide⟩ ?_
            rintro υ hυ
            have hS : (zrun (zbd A (zN A.D)) 13 i = false ∧ υ = τ) ∨ (zrun (zbd A (zN A.D)) 13 i = true ∧ zRft σ0 (7, A.q) υ) := by
              cases ez : zrun (zbd A (zN A.D)) 13 i with
              | false =>
                rw [ez, if_neg (by decide)] at ea9
                first
                  | exact Or.inl ⟨rfl, by rw [hυ, if_neg (by decide)]⟩
                  | (exfalso; omega)
              | true =>
                rw [ez, if_pos rfl] at ea9
                first
                  | (exfalso; omega)
                  | (refine Or.inr ⟨rfl, ?_⟩
                     rw [hυ, if_pos rfl]
                     have g := hQ.fl (k := 7) (by decide)
                     rw [if_neg (by decide)] at g
                     exact g)
            refine g_iinc (i := 2) (b := 1) (L' := [(0, _), (1, _), (2, _)]) (by decide +kernel) rfl rfl rfl ?_
            refine g_goto (off := -58) (tgt := 102) (by decide +kernel) (by decide) ?_
            first
              | (rcases hS with ⟨e, e2⟩ | ⟨e, e2⟩
                 · obtain rfl := e2.symm
                   refine ih (i + 1) _ (by push_cast; rfl) (by omega) (fun j hj h2 => ?_) (by omega)
                   rcases Nat.lt_or_ge j i with z | z
                   · exact hno j z h2
                   · rw [show j = i by omega]; exact e
                 · refine t_Md_binds102F hn e2 ?_ ⟨by omega, by omega⟩
                   refine Or.inr (Or.inl ⟨nb, ?_, e2⟩)
                   by_cases nr : zRng (zAD A (zbd A (zN A.D)))
                   · exact nr
                   · have := rr.2 nr i (by omega) (by omega)
                     rw [e] at this
                     exact absurd this (by decide))
              | (refine ih (i + 1) _ (by push_cast; rfl) (by omega) (fun j hj h2 => ?_) (by omega)
                 rcases Nat.lt_or_ge j i with z | z
                 · exact hno j z h2
                 · exfalso
                   rw [show j = i by omega] at h2
                   omega)
theorem w_Md_binds1 {G : zG} {X : zX} {n : Nat} {b : Nat → Int} {n0 : Nat} {σ0 : zSt} {A : zAb} {o : Nat} (hn : 220 ≤ n) (hn0 : n0 ≤ 600) (hA : zAi n0 A) (hv : zAv A) (ho : A.op = (o : Int)) (hk1 : A.D 1 A.op.toNat = 1)  : ∀ (m : Nat) (i : Nat) (x2 : Int) (τ : zSt), x2 = (i : Int) → i ≤ zN A.D → zRr b n0 σ0 (zAD A (zbd A i)) τ → (∀ j, j < i → A.D 2 j = A.op → zby (A.D 4 j) = true → znmd A (A.sn j) ≠ -1 ∧ znmd A (A.sn j) ≠ (j : Int)) → zN A.D < i + m → Go G X m_Md_binds (3, 0, 0, 0, 0) n SH τ 2 [(0, vr G 189), (1, vi (o : Int)), (2, vi x2)] [] (zV n SH (fun σ' => (zbad A ∧ zRft σ0 (3, A.q) σ') ∨ (¬ zbad A ∧ zRng (zAD A (zbd A (zN A.D))) ∧ zRft σ0 (7, A.q) σ') ∨ (¬ zbad A ∧ ¬ zRng (zAD A (zbd A (zN A.D))) ∧ zRr b n0 σ0 (zAD A (zbd A (zN A.D))) σ'))) := by
  intro m
  induction m with
  | zero => intro i x2 τ e2 hi hR hno hm; exact absurd hm (by omega)
  | succ m ih =>
    intro i x2 τ e2 hi hR hno hm
    subst e2
    have hG := hA.2.1
    have hN : zN A.D = (A.D 0 0).toNat := rfl
    have h12 : 0 ≤ A.D 0 0 ∧ A.D 0 0 ≤ 12 := ⟨hG.1.1, hG.1.2.1⟩
    have g2 : ∀ j, j < zN A.D → -1 ≤ A.D 2 j ∧ A.D 2 j ≤ 11 := fun j hj => (hG.2.1 j (by omega)).2.1
    have g4 : ∀ j, j < zN A.D → 0 ≤ A.D 4 j ∧ A.D 4 j ≤ 3 := fun j hj => (hG.2.1 j (by omega)).2.2.2.1
    have op := hA.2.2.1
    have eN : zN (zbd A i) = zN A.D := by unfold zN; rw [zbd_oth A _ (by decide)]
    have hQ := hR.1
    have h14 := hQ.1
    have ht := hQ.2.1
    have tr := zTt_r (b := b) (n0 := n0) (q := A.q)
    have sr := zsrt_r (zTt b n0 A.q)
    have e18 : τ 189 18 = zsrt (zTt b n0 A.q) := ht.2.1
    have E := hR.2.2.2
    have c0 : τ 190 1746 = A.D 0 0 := by
      have z : τ 190 1746 = zbd A i 0 0 := E.1.1
      rw [z, zbd_oth A _ (by decide)]
    have E2 : ∀ j, j < zN A.D → τ 190 (1760 + j) = A.D 2 j := fun j hj => by
      have z : τ 190 (1760 + j) = zbd A i 2 j := E.2.1 j (by show j < zN (zbd A i); rw [eN]; exact hj) 2 (by decide) (by decide)
      rw [z, zbd_oth A _ (by decide)]
    have E4 : ∀ j, j < zN A.D → τ 190 (1892 + j) = A.D 4 j := fun j hj => by
      have z : τ 190 (1892 + j) = zbd A i 4 j := E.2.1 j (by show j < zN (zbd A i); rw [eN]; exact hj) 4 (by decide) (by decide)
      rw [z, zbd_oth A _ (by decide)]
    have E5 : ∀ j, j < zN A.D → τ 190 (1904 + j) = zbd A i 5 j := fun j hj => E.2.1 j (by show j < zN (zbd A i); rw [eN]; exact hj) 5 (by decide) (by decide)
    have hGi : zGood (zbd A i) 0 := zbd_good hG
    refine g_iload_n (i := 2) (by decide +kernel) rfl ?_
    refine g_aload_n (i := 0) (by decide +kernel) rfl ?_
    refine g_getr f_Md_7 (by decide +kernel) (by omega) rfl rfl ?_
    refine g_sipush (a := 1746) (by decide +kernel) (by decide) ?_
    refine g_iald (j := 1746) (by decide +kernel) (by omega) rfl rfl (by omega) (by decide) ?_
    refine g_icmp_ge (off := 89) (tgt := 100) (by decide +kernel) (by decide) ⟨by omega, by omega⟩ ⟨by omega, by omega⟩ (fun h11 => ?_) (fun h11 => ?_)
    · refine g_iconst (a := 0) (by decide +kernel) ?_
      refine g_istore_n (i := 2) (L' := [(0, _), (1, _), (2, _)]) (by decide +kernel) rfl rfl ?_
      first
        | (exfalso; exact h18 h14)
        | (have ei : i = zN A.D := by omega
           have nb : ¬ zbad A := fun ⟨j, hj, h2, h4, y⟩ => by
             have g := hno j (by omega) h2 h4
             rcases y with y | y
             · exact g.1 y
             · exact g.2 y
           rw [ei] at hR
           exact w_Md_binds2 hn hn0 hA hv ho hk1 nb hR (zN A.D + 1) 0 _ rfl (by omega) (fun j hj => absurd hj (by omega)) (by omega))
    · have q2 := E2 i (by omega)
      have r2 := g2 i (by omega)
      have q4 := E4 i (by omega)
      have r4 := g4 i (by omega)
      refine g_aload_n (i := 0) (by decide +kernel) rfl ?_
      refine g_geti f_Md_230 (by decide +kernel) (by omega) rfl rfl ?_
      refine g_if_ne (off := 82) (tgt := 100) (by decide +kernel) (by decide) ⟨by omega, by omega⟩ (fun h18 => ?_) (fun h18 => ?_)
      · refine g_iconst (a := 0) (by decide +kernel) ?_
        refine g_istore_n (i := 2) (L' := [(0, _), (1, _), (2, _)]) (by decide +kernel) rfl rfl ?_
        first
          | (exfalso; exact h18 h14)
          | (have ei : i = zN A.D := by omega
             have nb : ¬ zbad A := fun ⟨j, hj, h2, h4, y⟩ => by
               have g := hno j (by omega) h2 h4
               rcases y with y | y
               · exact g.1 y
               · exact g.2 y
             rw [ei] at hR
             exact w_Md_binds2 hn hn0 hA hv ho hk1 nb hR (zN A.D + 1) 0 _ rfl (by omega) (fun j hj => absurd hj (by omega)) (by omega))
      · refine g_aload_n (i := 0) (by decide +kernel) rfl ?_
        refine g_getr f_Md_7 (by decide +kernel) (by omega) rfl rfl ?_
        refine g_sipush (a := 1760) (by decide +kernel) (by decide) ?_
        refine g_iload_n (i := 2) (by decide +kernel) rfl ?_
        refine g_iadd (by decide +kernel) ?_
        refine g_iald (j := 1760 + i) (by decide +kernel) (by omega) rfl (by omega) (by omega) (by decide) ?_
        refine g_iload_n (i := 1) (by decide +kernel) rfl ?_
        refine g_icmp_ne (off := 62) (tgt := 94) (by decide +kernel) (by decide) ⟨by omega, by omega⟩ ⟨by omega, by omega⟩ (fun h32 => ?_) (fun h32 => ?_)
        · refine g_iinc (i := 2) (b := 1) (L' := [(0, _), (1, _), (2, _)]) (by decide +kernel) rfl rfl rfl ?_
          refine g_goto (off := -95) (tgt := 2) (by decide +kernel) (by decide) ?_
          first
            | (rcases hS with ⟨e, e2⟩ | ⟨e, e2⟩
               · have e5 := zbd_s (A := A) (i := i) ⟨by omega, by1⟩
                 have hR2 := zRrK.putD (r := 5) (j := i) (v := znmd A (A.sn i)) hR hGi (by decide) (by decide) (by decide) (by show i < 12; omega)
                 have hR3 : zRr b n0 σ0 (zAD A (zbd A (i + 1))) υ := by
                   rw [e2, ← e5]
                   unfold zRr
                   rw [show zN (zAD A (zs (zbd A i) 5 i (znmd A (A.sn i)))).D = zN (zbd A i) from zN_zs (by decide)]
                   exact hR2
                 refine ih (i + 1) _ _ (by push_cast; rfl) (by omega) hR3 (fun j hj h2 h4 => ?_) (by omega)
                 rcases Nat.lt_or_ge j i with z | z
                 · exact hno j z h2 h4
                 · rw [show j = i by omega]; exact e
               · exact t_Md_binds2F hn e2 (Or.inl ⟨⟨i, by omega, by omega, by1, e⟩, e2⟩) ⟨by omega, by omega⟩)
            | (have e5 := zbd_no (A := A) (i := i) (fun y => by first | exact by0 y.2 | (have := y.1; omega))
               refine ih (i + 1) _ _ (by push_cast; rfl) (by omega) (by rw [e5]; exact hR) (fun j hj h2 h4 => ?_) (by omega)
               rcases Nat.lt_or_ge j i with z | z
               · exact hno j z h2 h4
               · exfalso
                 rw [show j = i by omega] at h2 h4
                 first | exact by0 h4 | omega)
        · refine g_aload_n (i := 0) (by decide +kernel) rfl ?_
          refine g_sipush (a := 1746) (by decide +kernel) (by decide) ?_
          refine g_iload_n (i := 2) (by decide +kernel) rfl ?_
          refine g_cVI (st := _) (c_Md_isByOther (b := 1746) (k := i) hn (Or.inr rfl) (by omega) ⟨by show _ ≤ τ 190 (1892 + i); omega, by show τ 190 (1892 + i) ≤ _; omega⟩) k_Md_isByOther l_Md_284 (by decide +kernel) (by omega) rfl rfl rfl rfl (Nat.le_of_ble_eq_true rfl) (by decide) ⟨by decide, by decide⟩ ?_
          rintro a9 σ9 ⟨ea9, hσ9⟩
          obtain rfl := hσ9.symm
          have ea9 : a9 = if zby (τ 190 (1892 + i)) = true then 1 else 0 := ea9
          rw [q4] at ea9
          have a9r : a9 = 0 ∨ a9 = 1 := by rw [ea9]; exact zb01
          refine g_if_ne (off := 6) (tgt := 49) (by decide +kernel) (by decide) ⟨by omega, by omega⟩ (fun h43 => ?_) (fun h43 => ?_)
          · have by1 : zby (A.D 4 i) = true := by
              cases ez : zby (A.D 4 i) with
              | true => rfl
              | false =>
                rw [ez, if_neg (by decide)] at ea9
                exact absurd ea9 h43
            refine g_aload_n (i := 0) (by decide +kernel) rfl ?_
            refine g_getr f_Md_7 (by decide +kernel) (by omega) rfl rfl ?_
            refine g_sipush (a := 1904) (by decide +kernel) (by decide) ?_
            refine g_iload_n (i := 2) (by decide +kernel) rfl ?_
            refine g_iadd (by decide +kernel) ?_
            refine g_aload_n (i := 0) (by decide +kernel) rfl ?_
            refine g_iload_n (i := 1) (by decide +kernel) rfl ?_
            refine g_iload_n (i := 2) (by decide +kernel) rfl ?_
            refine g_aload_n (i := 0) (by decide +kernel) rfl ?_
            refine g_getr f_Md_79 (by decide +kernel) (by omega) rfl rfl ?_
            refine g_iload_n (i := 2) (by decide +kernel) rfl ?_
            refine g_lald (j := i) (by decide +kernel) (by omega) rfl rfl (by omega) (by decide) ?_
            have nmw : zNme (A.sn i) (τ 199 i) := hR.2.1.2 i (by show i < zN (zbd A i); rw [eN]; omega) (by show zby (zbd A i 4 i) = true; rw [zbd_oth A _ (by decide)]; exact by1)
            have nms : ∀ j, j < zN A.D → zNme (A.nm j) (τ 198 j) := fun j hj => hR.2.1.1 j (by show j < zN (zbd A i); rw [eN]; exact hj)
            refine g_cVI (st := _) (c_Md_namedIn (c := i) hn hn0 hA hv ho E2 c0 nms (by omega) nmw) k_Md_namedIn l_Md_288 (by decide +kernel) (by omega) rfl rfl rfl rfl (Nat.le_of_ble_eq_true rfl) (by decide) ⟨by decide, by decide⟩ ?_
            rintro a8 σ8 ⟨ea8, hσ8⟩
            obtain rfl := hσ8.symm
            have nr9 := znmd_r A (A.sn i)
            have a8r : -1 ≤ a8 ∧ a8 ≤ 11 := by rw [ea8]; split <;> omega
            refine g_iast (j := 1904 + i) (by decide +kernel) (by omega) rfl (by omega) (by omega) (by decide) ?_
            refine g_aload_n (i := 0) (by decide +kernel) rfl ?_
            refine g_aload_n (i := 0) (by decide +kernel) rfl ?_
            refine g_getr f_Md_7 (by decide +kernel) (by omega) rfl rfl ?_
            refine g_sipush (a := 1904) (by decide +kernel) (by decide) ?_
            refine g_iload_n (i := 2) (by decide +kernel) rfl ?_
            refine g_iadd (by decide +kernel) ?_
            refine g_iald (j := 1904 + i) (by decide +kernel) (by omega) rfl (by omega) (by omega) (by decide) ?_
            refine g_if_lt (off := 7) (tgt := 89) (by decide +kernel) (by decide) ⟨by rw [zs_eq]; omega, by rw [zs_eq]; omega⟩ (fun h82 => ?_) (fun h82 => ?_)
            · refine g_iconst (a := 0) (by decide +kernel) ?_
              refine g_iconst (a := 3) (by decide +kernel) ?_
              obtain ⟨τ1, eτ⟩ : ∃ τ1, τ1 = zs τ 190 (1904 + i) a8 := ⟨_, rfl⟩
              refine g_eq (σ' := τ1) ?_ eτ.symm rfl rfl
              have hQ1 : zRq0 b n0 σ0 A.q τ1 := by rw [eτ]; exact hQ.drf (by omega)
              have h141 := hQ1.1
              have e181 : τ1 189 18 = zsrt (zTt b n0 A.q) := hQ1.2.1.2.1
              refine g_cVV (st := _) (c_Md_wants hn ⟨by omega, by omega⟩ (fun _ => ⟨by omega, by omega⟩) ⟨by decide, by decide⟩ (by decide)) k_Md_wants l_Md_243 (by decide +kernel) (by omega) rfl rfl rfl rfl (Nat.le_of_ble_eq_true rfl) (by decide) ⟨by decide, by decide⟩ ?_
              rintro υ hυ
              rw [zs_eq] at h82
              have hS : ((znmd A (A.sn i) ≠ -1 ∧ znmd A (A.sn i) ≠ (i : Int)) ∧ υ = zs τ 190 (1904 + i) (znmd A (A.sn i))) ∨ ((znmd A (A.sn i) = -1 ∨ znmd A (A.sn i) = (i : Int)) ∧ zRft σ0 (3, A.q) υ) := by
                by_cases z : znmd A (A.sn i) = (i : Int)
                · rw [if_pos z] at ea8
                  first
                    | (exfalso; omega)
                    | (refine Or.inr ⟨Or.inr z, ?_⟩
                       rw [hυ, if_pos rfl]
                       have g := hQ1.fl (k := 3) (by decide)
                       rw [if_neg (by decide)] at g
                       exact g)
                · rw [if_neg z] at ea8
                  first
                    | (refine Or.inl ⟨⟨by omega, z⟩, ?_⟩
                       rw [hυ, if_neg (by decide), eτ, ea8])
                    | (refine Or.inr ⟨Or.inl (by omega), ?_⟩
                       rw [hυ, if_pos rfl]
                       have g := hQ1.fl (k := 3) (by decide)
                       rw [if_neg (by decide)] at g
                       exact g)
              refine g_iinc (i := 2) (b := 1) (L' := [(0, _), (1, _), (2, _)]) (by decide +kernel) rfl rfl rfl ?_
              refine g_goto (off := -95) (tgt := 2) (by decide +kernel) (by decide) ?_
              first
                | (rcases hS with ⟨e, e2⟩ | ⟨e, e2⟩
                   · have e5 := zbd_s (A := A) (i := i) ⟨by omega, by1⟩
                     have hR2 := zRrK.putD (r := 5) (j := i) (v := znmd A (A.sn i)) hR hGi (by decide) (by decide) (by decide) (by show i < 12; omega)
                     have hR3 : zRr b n0 σ0 (zAD A (zbd A (i + 1))) υ := by
                       rw [e2, ← e5]
                       unfold zRr
                       rw [show zN (zAD A (zs (zbd A i) 5 i (znmd A (A.sn i)))).D = zN (zbd A i) from zN_zs (by decide)]
                       exact hR2
                     refine ih (i + 1) _ _ (by push_cast; rfl) (by omega) hR3 (fun j hj h2 h4 => ?_) (by omega)
                     rcases Nat.lt_or_ge j i with z | z
                     · exact hno j z h2 h4
                     · rw [show j = i by omega]; exact e
                   · exact t_Md_binds2F hn e2 (Or.inl ⟨⟨i, by omega, by omega, by1, e⟩, e2⟩) ⟨by omega, by omega⟩)
                | (have e5 := zbd_no (A := A) (i := i) (fun y => by first | exact by0 y.2 | (have := y.1; omega))
                   refine ih (i + 1) _ _ (by push_cast; rfl) (by omega) (by rw [e5]; exact hR) (fun j hj h2 h4 => ?_) (by omega)
                   rcases Nat.lt_or_ge j i with z | z
                   · exact hno j z h2 h4
                   · exfalso
                     rw [show j = i by omega] at h2 h4
                     first | exact by0 h4 | omega)
            · refine g_iconst (a := 1) (by decide +kernel) ?_
              refine g_goto (off := 4) (tgt := 90) (by decide +kernel) (by decide) ?_
              refine g_iconst (a := 3) (by decide +kernel) ?_
              obtain ⟨τ1, eτ⟩ : ∃ τ1, τ1 = zs τ 190 (1904 + i) a8 := ⟨_, rfl⟩
              refine g_eq (σ' := τ1) ?_ eτ.symm rfl rfl
              have hQ1 : zRq0 b n0 σ0 A.q τ1 := by rw [eτ]; exact hQ.drf (by omega)
              have h141 := hQ1.1
              have e181 : τ1 189 18 = zsrt (zTt b n0 A.q) := hQ1.2.1.2.1
              refine g_cVV (st := _) (c_Md_wants hn ⟨by omega, by omega⟩ (fun _ => ⟨by omega, by omega⟩) ⟨by decide, by decide⟩ (by decide)) k_Md_wants l_Md_243 (by decide +kernel) (by omega) rfl rfl rfl rfl (Nat.le_of_ble_eq_true rfl) (by decide) ⟨by decide, by decide⟩ ?_
              rintro υ hυ
              rw [zs_eq] at h82
              have hS : ((znmd A (A.sn i) ≠ -1 ∧ znmd A (A.sn i) ≠ (i : Int)) ∧ υ = zs τ 190 (1904 + i) (znmd A (A.sn i))) ∨ ((znmd A (A.sn i) = -1 ∨ znmd A (A.sn i) = (i : Int)) ∧ zRft σ0 (3, A.q) υ) := by
                by_cases z : znmd A (A.sn i) = (i : Int)
                · rw [if_pos z] at ea8
                  first
                    | (exfalso; omega)
                    | (refine Or.inr ⟨Or.inr z, ?_⟩
                       rw [hυ, if_pos rfl]
                       have g := hQ1.fl (k := 3) (by decide)
                       rw [if_neg (by decide)] at g
                       exact g)
                · rw [if_neg z] at ea8
                  first
                    | (refine Or.inl ⟨⟨by omega, z⟩, ?_⟩
                       rw [hυ, if_neg (by decide), eτ, ea8])
                    | (refine Or.inr ⟨Or.inl (by omega), ?_⟩
                       rw [hυ, if_pos rfl]
                       have g := hQ1.fl (k := 3) (by decide)
                       rw [if_neg (by decide)] at g
                       exact g)
              refine g_iinc (i := 2) (b := 1) (L' := [(0, _), (1, _), (2, _)]) (by decide +kernel) rfl rfl rfl ?_
              refine g_goto (off := -95) (tgt := 2) (by decide +kernel) (by decide) ?_
              first
                | (rcases hS with ⟨e, e2⟩ | ⟨e, e2⟩
                   · have e5 := zbd_s (A := A) (i := i) ⟨by omega, by1⟩
                     have hR2 := zRrK.putD (r := 5) (j := i) (v := znmd A (A.sn i)) hR hGi (by decide) (by decide) (by decide) (by show i < 12; omega)
                     have hR3 : zRr b n0 σ0 (zAD A (zbd A (i + 1))) υ := by
                       rw [e2, ← e5]
                       unfold zRr
                       rw [show zN (zAD A (zs (zbd A i) 5 i (znmd A (A.sn i)))).D = zN (zbd A i) from zN_zs (by decide)]
                       exact hR2
                     refine ih (i + 1) _ _ (by push_cast; rfl) (by omega) hR3 (fun j hj h2 h4 => ?_) (by omega)
                     rcases Nat.lt_or_ge j i with z | z
                     · exact hno j z h2 h4
                     · rw [show j = i by omega]; exact e
                   · exact t_Md_binds2F hn e2 (Or.inl ⟨⟨i, by omega, by omega, by1, e⟩, e2⟩) ⟨by omega, by omega⟩)
                | (have e5 := zbd_no (A := A) (i := i) (fun y => by first | exact by0 y.2 | (have := y.1; omega))
                   refine ih (i + 1) _ _ (by push_cast; rfl) (by omega) (by rw [e5]; exact hR) (fun j hj h2 h4 => ?_) (by omega)
                   rcases Nat.lt_or_ge j i with z | z
                   · exact hno j z h2 h4
                   · exfalso
                     rw [show j = i by omega] at h2 h4
                     first | exact by0 h4 | omega)
          · have by0 : ¬ zby (A.D 4 i) = true := fun ez => by
              rw [ez, if_pos rfl] at ea9
              omega
            refine g_goto (off := 48) (tgt := 94) (by decide +kernel) (by decide) ?_
            refine g_iinc (i := 2) (b := 1) (L' := [(0, _), (1, _), (2, _)]) (by decide +kernel) rfl rfl rfl ?_
            refine g_goto (off := -95) (tgt := 2) (by decide +kernel) (by decide) ?_
            first
              | (rcases hS with ⟨e, e2⟩ | ⟨e, e2⟩
                 · have e5 := zbd_s (A := A) (i := i) ⟨by omega, by1⟩
                   have hR2 := zRrK.putD (r := 5) (j := i) (v := znmd A (A.sn i)) hR hGi (by decide) (by decide) (by decide) (by show i < 12; omega)
                   have hR3 : zRr b n0 σ0 (zAD A (zbd A (i + 1))) υ := by
                     rw [e2, ← e5]
                     unfold zRr
                     rw [show zN (zAD A (zs (zbd A i) 5 i (znmd A (A.sn i)))).D = zN (zbd A i) from zN_zs (by decide)]
                     exact hR2
                   refine ih (i + 1) _ _ (by push_cast; rfl) (by omega) hR3 (fun j hj h2 h4 => ?_) (by omega)
                   rcases Nat.lt_or_ge j i with z | z
                   · exact hno j z h2 h4
                   · rw [show j = i by omega]; exact e
                 · exact t_Md_binds2F hn e2 (Or.inl ⟨⟨i, by omega, by omega, by1, e⟩, e2⟩) ⟨by omega, by omega⟩)
              | (have e5 := zbd_no (A := A) (i := i) (fun y => by first | exact by0 y.2 | (have := y.1; omega))
                 refine ih (i + 1) _ _ (by push_cast; rfl) (by omega) (by rw [e5]; exact hR) (fun j hj h2 h4 => ?_) (by omega)
                 rcases Nat.lt_or_ge j i with z | z
                 · exact hno j z h2 h4
                 · exfalso
                   rw [show j = i by omega] at h2 h4
                   first | exact by0 h4 | omega)
theorem c_Md_binds {G : zG} {n : Nat} {σ : zSt} {b : Nat → Int} {n0 : Nat} {σ0 : zSt} {A : zAb} {o : Nat} (hn : 220 ≤ n) (hn0 : n0 ≤ 600) (hA : zAi n0 A) (hv : zAv A) (ho : A.op = (o : Int)) (hk1 : A.D 1 A.op.toNat = 1) (hR : zRr b n0 σ0 A σ)  : Gm G y_Md_binds m_Md_binds 3 0 0 [vr G 189, vi (o : Int)] n SH σ (zV n SH (fun σ' => (zbad A ∧ zRft σ0 (3, A.q) σ') ∨ (¬ zbad A ∧ zRng (zAD A (zbd A (zN A.D))) ∧ zRft σ0 (7, A.q) σ') ∨ (¬ zbad A ∧ ¬ zRng (zAD A (zbd A (zN A.D))) ∧ zRr b n0 σ0 (zAD A (zbd A (zN A.D))) σ'))) := by
  refine g_enter (L := [(0, _), (1, _)]) (by decide) rfl rfl rfl (Nat.le_of_ble_eq_true rfl) (fun X => ?_)
  refine g_iconst (a := 0) (by decide +kernel) ?_
  refine g_istore_n (i := 2) (L' := [(0, _), (1, _), (2, _)]) (by decide +kernel) rfl rfl ?_
  exact w_Md_binds1 hn hn0 hA hv ho hk1 (zN A.D + 1) 0 _ _ rfl (by omega) (by rw [zbd_0]; exact hR) (fun j hj => absurd hj (by omega)) (by omega)
