/-- what layInPar leaves -/
def zLIP (σ : zSt) (b c k : Nat) : zSt := zs (zs (zs σ (c + 4) k (zBs (zSv σ b) 12 k : Int)) (c + 5) k (if zOp (zSv σ b) k = true then 1 else 0)) (c + 3) k (zBg (zSv σ b) (σ (c + 2)) k)
theorem t_La_layInPar {G : zG} {X : zX} {n : Nat} {σ : zSt} {b c : Nat} (hn : 189 ≤ n) (hL : zLa SH c) (hS : zSw SH b) (hg : zGood σ b) (hbc : c + 6 ≤ b ∨ b + 10 ≤ c) {k a : Nat} {x4 x5 : Int} (hk : k < 12) (ha : a < 12) (e1 : zBs (zSv σ b) 12 k = a) (e2 : zBw (zSv σ b) (σ (c + 2)) 12 k = x4) : Go G X m_La_layInPar (1, 0, 0, 0, 0) n SH σ 73 [(0, vr G c), (1, vr G b), (2, vi k), (3, vi (a : Int)), (4, vi x4), (5, vi x5)] [] (zV n SH (fun σ' => σ' = zLIP σ b c k)) := by
  have hb := hS.1
  have hcc := hL.1
  have hc := hg.1
  have hka := hg.2.1 a ha
  have hop : zOp (zSv σ b) k = decide (σ (b + 4) a = 3) := by unfold zOp; rw [e1]; rfl
  refine g_aload_n (i := 0) (by decide +kernel) rfl ?_
  refine g_getr f_La_21 (by decide +kernel) (by omega) hL.a0 rfl ?_
  refine g_iload_n (i := 2) (by decide +kernel) rfl ?_
  refine g_iload_n (i := 3) (by decide +kernel) rfl ?_
  refine g_iast (j := k) (by decide +kernel) (by omega) hL.a4 rfl (by omega) (by decide) ?_
  refine g_aload_n (i := 0) (by decide +kernel) rfl ?_
  refine g_getr f_La_24 (by decide +kernel) (by omega) hL.a0 rfl ?_
  refine g_iload_n (i := 2) (by decide +kernel) rfl ?_
  refine g_aload_n (i := 1) (by decide +kernel) rfl ?_
  refine g_getr f_La_79 (by decide +kernel) (by omega) hS.a0 rfl ?_
  refine g_iload_n (i := 3) (by decide +kernel) rfl ?_
  refine g_iald (j := a) (by decide +kernel) (by omega) hS.a4 rfl (by omega) (by decide) ?_
  refine g_iconst (a := 3) (by decide +kernel) ?_
  refine g_icmp_ne (off := 7) (tgt := 99) (by decide +kernel) (by decide) ⟨by rw [zs_other (by omega)]; omega, by rw [zs_other (by omega)]; omega⟩ ⟨by omega, by omega⟩ (fun h92 => ?_) (fun h92 => ?_)
  · rw [zs_other (by omega)] at h92
    refine g_iconst (a := 0) (by decide +kernel) ?_
    refine g_zast (j := k) (by decide +kernel) (by omega) hL.a5 rfl (by omega) (by decide) (by omega) ?_
    refine g_aload_n (i := 0) (by decide +kernel) rfl ?_
    refine g_getr f_La_18 (by decide +kernel) (by omega) hL.a0 rfl ?_
    refine g_iload_n (i := 2) (by decide +kernel) rfl ?_
    refine g_aload_n (i := 0) (by decide +kernel) rfl ?_
    refine g_getr f_La_24 (by decide +kernel) (by omega) hL.a0 rfl ?_
    refine g_iload_n (i := 2) (by decide +kernel) rfl ?_
    refine g_zald (j := k) (by decide +kernel) (by omega) hL.a5 rfl (by omega) (by decide) ?_
    refine g_if_eq (off := 8) (tgt := 120) (by decide +kernel) (by decide) ⟨by rw [zs_eq]; decide, by rw [zs_eq]; decide⟩ (fun _ => ?_) (fun h => absurd h (by rw [zs_eq]; decide))
    refine g_iload (i := 4) (by decide +kernel) rfl ?_
    refine g_aload_n (i := 1) (by decide +kernel) rfl ?_
    refine g_getr f_La_54 (by decide +kernel) (by omega) hS.a0 rfl ?_
    refine g_iload_n (i := 3) (by decide +kernel) rfl ?_
    refine g_iald (j := a) (by decide +kernel) (by omega) hS.a6 rfl (by omega) (by decide) ?_
    refine g_iadd (by decide +kernel) ?_
    refine g_iast (j := k) (by decide +kernel) (by omega) hL.a3 rfl (by omega) (by decide) ?_
    refine g_retV (by decide +kernel) rfl ⟨by decide, by decide⟩ ?_
    first
      | (have ho : zOp (zSv σ b) k = true := by rw [hop, h92]; rfl
         unfold zLIP zBg
         rw [e1, e2, if_pos ho, if_pos ho, Int.add_zero])
      | (have ho : zOp (zSv σ b) k = false := by rw [hop, decide_eq_false h92]
         unfold zLIP zBg
         rw [e1, e2, ho]
         simp [zs_app, zSv]
         rw [if_neg (by omega), if_neg (by omega)])
  · rw [zs_other (by omega)] at h92
    refine g_iconst (a := 1) (by decide +kernel) ?_
    refine g_goto (off := 4) (tgt := 100) (by decide +kernel) (by decide) ?_
    refine g_zast (j := k) (by decide +kernel) (by omega) hL.a5 rfl (by omega) (by decide) (by omega) ?_
    refine g_aload_n (i := 0) (by decide +kernel) rfl ?_
    refine g_getr f_La_18 (by decide +kernel) (by omega) hL.a0 rfl ?_
    refine g_iload_n (i := 2) (by decide +kernel) rfl ?_
    refine g_aload_n (i := 0) (by decide +kernel) rfl ?_
    refine g_getr f_La_24 (by decide +kernel) (by omega) hL.a0 rfl ?_
    refine g_iload_n (i := 2) (by decide +kernel) rfl ?_
    refine g_zald (j := k) (by decide +kernel) (by omega) hL.a5 rfl (by omega) (by decide) ?_
    refine g_if_eq (off := 8) (tgt := 120) (by decide +kernel) (by decide) ⟨by rw [zs_eq]; decide, by rw [zs_eq]; decide⟩ (fun h => absurd h (by rw [zs_eq]; decide)) (fun _ => ?_)
    refine g_iload (i := 4) (by decide +kernel) rfl ?_
    refine g_goto (off := 12) (tgt := 129) (by decide +kernel) (by decide) ?_
    refine g_iast (j := k) (by decide +kernel) (by omega) hL.a3 rfl (by omega) (by decide) ?_
    refine g_retV (by decide +kernel) rfl ⟨by decide, by decide⟩ ?_
    first
      | (have ho : zOp (zSv σ b) k = true := by rw [hop, h92]; rfl
         unfold zLIP zBg
         rw [e1, e2, if_pos ho, if_pos ho, Int.add_zero])
      | (have ho : zOp (zSv σ b) k = false := by rw [hop, decide_eq_false h92]
         unfold zLIP zBg
         rw [e1, e2, ho]
         simp [zs_app, zSv]
         rw [if_neg (by omega), if_neg (by omega)])
theorem w_La_layInPar {G : zG} {X : zX} {n : Nat} {σ : zSt} {b c : Nat} {k : Nat} (hn : 189 ≤ n) (hL : zLa SH c) (hS : zSw SH b) (hg : zGood σ b) (hbc : c + 6 ≤ b ∨ b + 10 ≤ c) (hk : k < 12) {D : Nat → Prop} (hD : ∀ y, D y → y < 12 ∧ (zby (σ (b + 4) y) = true → 0 ≤ σ (b + 5) y ∧ D (σ (b + 5) y).toNat)) : ∀ (m : Nat) (i a : Nat) (x4 x5 : Int) (L6 : List (Nat × Value)), x5 = (i : Int) → D a → zBs (zSv σ b) 12 k = zBs (zSv σ b) (12 - i) a → zBw (zSv σ b) (σ (c + 2)) 12 k = x4 + zBw (zSv σ b) (σ (c + 2)) (12 - i) a → (L6 = [] ∨ ∃ v, L6 = [(6, vi v)]) → i ≤ 12 → 12 < i + m → Go G X m_La_layInPar (1, 0, 0, 0, 0) n SH σ 8 ([(0, vr G c), (1, vr G b), (2, vi k), (3, vi (a : Int)), (4, vi x4), (5, vi x5)] ++ L6) [] (zV n SH (fun σ' => σ' = zLIP σ b c k)) := by
  intro m
  induction m with
  | zero => intro i a x4 x5 L6 e5 ha e1 e2 h6 hi hm; exact absurd hm (by omega)
  | succ m ih =>
    intro i a x4 x5 L6 e5 ha e1 e2 h6 hi hm
    have hb := hS.1
    have hcc := hL.1
    have hc := hg.1
    obtain ⟨a12, hDa⟩ := hD a ha
    have hka := hg.2.1 a a12
    refine g_less [0, 1, 2, 3, 4, 5] (L' := [(0, vr G c), (1, vr G b), (2, vi k), (3, vi (a : Int)), (4, vi x4), (5, vi x5)]) (by rcases h6 with rfl | ⟨v, rfl⟩ <;> rfl) ?_
    refine g_iload (i := 5) (by decide +kernel) rfl ?_
    refine g_bipush (a := 12) (by decide +kernel) (by decide) ?_
    refine g_icmp_ge (off := 61) (tgt := 73) (by decide +kernel) (by decide) ⟨by omega, by omega⟩ ⟨by omega, by omega⟩ (fun h12 => ?_) (fun h12 => ?_)
    · first
        | exact t_La_layInPar hn hL hS hg hbc hk a12 (by rw [e1, show 12 - i = 0 by omega]; rfl) (by rw [e2, show 12 - i = 0 by omega]; simp [zBw])
        | exact t_La_layInPar hn hL hS hg hbc hk a12 e1 (by omega)
    · rw [show 12 - i = (12 - (i + 1)) + 1 by omega, zBs_s (zSv σ b) (12 - (i + 1)), show zSv σ b 4 a = σ (b + 4) a from rfl] at e1
      rw [show 12 - i = (12 - (i + 1)) + 1 by omega, zBw_s (zSv σ b) _ (12 - (i + 1)), show zSv σ b 4 a = σ (b + 4) a from rfl] at e2
      refine g_aload_n (i := 1) (by decide +kernel) rfl ?_
      refine g_iload_n (i := 3) (by decide +kernel) rfl ?_
      refine g_cVI (st := []) (c_Sh_startsByAnother (k := a) hn hS hg a12) k_Sh_startsByAnother l_La_72 (by decide +kernel) (by omega) hS.a0 rfl rfl rfl (Nat.le_of_ble_eq_true rfl) (by decide) ⟨by decide, by decide⟩ ?_
      rintro v σ1 ⟨rfl, hσ⟩
      obtain rfl := hσ.symm
      refine g_if_eq (off := 53) (tgt := 73) (by decide +kernel) (by decide) zbr (fun h20 => ?_) (fun h20 => ?_)
      · have h20 := zb0.mp h20
        rw [if_neg h20] at e1 e2
        first
          | exact t_La_layInPar hn hL hS hg hbc hk a12 (by rw [e1, show 12 - i = 0 by omega]; rfl) (by rw [e2, show 12 - i = 0 by omega]; simp [zBw])
          | exact t_La_layInPar hn hL hS hg hbc hk a12 e1 (by omega)
      · have h20 := zb1.mp h20
        rw [if_pos h20] at e1 e2
        have hq := hDa h20
        have hq2 := (hD _ hq.2).1
        obtain ⟨o, ho⟩ := Int.eq_ofNat_of_zero_le hq.1
        have ho2 : (σ (b + 5) a).toNat = o := by omega
        rw [show (zSv σ b 5 a).toNat = o from ho2] at e1 e2
        rw [ho2] at hq hq2
        refine g_aload_n (i := 1) (by decide +kernel) rfl ?_
        refine g_getr f_La_76 (by decide +kernel) (by omega) hS.a0 rfl ?_
        refine g_iload_n (i := 3) (by decide +kernel) rfl ?_
        refine g_iald (j := a) (by decide +kernel) (by omega) hS.a5 rfl (by omega) (by decide) ?_
        refine g_istore (i := 6) (L' := [(0, _), (1, _), (2, _), (3, _), (4, _), (5, _), (6, _)]) (by decide +kernel) rfl rfl ?_
        refine g_iload (i := 4) (by decide +kernel) rfl ?_
        refine g_aload_n (i := 1) (by decide +kernel) rfl ?_
        refine g_getr f_La_54 (by decide +kernel) (by omega) hS.a0 rfl ?_
        refine g_iload_n (i := 3) (by decide +kernel) rfl ?_
        refine g_iald (j := a) (by decide +kernel) (by omega) hS.a6 rfl (by omega) (by decide) ?_
        refine g_aload_n (i := 1) (by decide +kernel) rfl ?_
        refine g_getr f_La_79 (by decide +kernel) (by omega) hS.a0 rfl ?_
        refine g_iload_n (i := 3) (by decide +kernel) rfl ?_
        refine g_iald (j := a) (by decide +kernel) (by omega) hS.a4 rfl (by omega) (by decide) ?_
        refine g_iconst (a := 2) (by decide +kernel) ?_
        refine g_icmp_ne (off := 13) (tgt := 59) (by decide +kernel) (by decide) ⟨by omega, by omega⟩ ⟨by omega, by omega⟩ (fun h46 => ?_) (fun h46 => ?_)
        · refine g_iconst (a := 0) (by decide +kernel) ?_
          refine g_iadd (by decide +kernel) ?_
          refine g_iadd (by decide +kernel) ?_
          refine g_istore (i := 4) (L' := [(0, _), (1, _), (2, _), (3, _), (4, _), (5, _), (6, _)]) (by decide +kernel) rfl rfl ?_
          refine g_iload (i := 6) (by decide +kernel) rfl ?_
          refine g_istore_n (i := 3) (L' := [(0, _), (1, _), (2, _), (3, _), (4, _), (5, _), (6, _)]) (by decide +kernel) rfl rfl ?_
          refine g_iinc (i := 5) (b := 1) (L' := [(0, _), (1, _), (2, _), (3, _), (4, _), (5, _), (6, _)]) (by decide +kernel) rfl rfl rfl ?_
          refine g_goto (off := -62) (tgt := 8) (by decide +kernel) (by decide) ?_
          rw [ho]
          refine ih (i + 1) o _ _ [(6, vi (o : Int))] (by omega) hq.2 e1 ?_ (Or.inr ⟨_, rfl⟩) (by omega) (by omega)
          rw [e2, show zSv σ b 6 a = σ (b + 6) a from rfl]
          first
            | (rw [if_pos h46]; omega)
            | (rw [if_neg h46]; omega)
        · refine g_aload_n (i := 0) (by decide +kernel) rfl ?_
          refine g_getr f_La_15 (by decide +kernel) (by omega) hL.a0 rfl ?_
          refine g_iload (i := 6) (by decide +kernel) rfl ?_
          refine g_iald (j := o) (by decide +kernel) (by omega) hL.a2 ho (by omega) (by decide) ?_
          refine g_goto (off := 4) (tgt := 60) (by decide +kernel) (by decide) ?_
          refine g_iadd (by decide +kernel) ?_
          refine g_iadd (by decide +kernel) ?_
          refine g_istore (i := 4) (L' := [(0, _), (1, _), (2, _), (3, _), (4, _), (5, _), (6, _)]) (by decide +kernel) rfl rfl ?_
          refine g_iload (i := 6) (by decide +kernel) rfl ?_
          refine g_istore_n (i := 3) (L' := [(0, _), (1, _), (2, _), (3, _), (4, _), (5, _), (6, _)]) (by decide +kernel) rfl rfl ?_
          refine g_iinc (i := 5) (b := 1) (L' := [(0, _), (1, _), (2, _), (3, _), (4, _), (5, _), (6, _)]) (by decide +kernel) rfl rfl rfl ?_
          refine g_goto (off := -62) (tgt := 8) (by decide +kernel) (by decide) ?_
          rw [ho]
          refine ih (i + 1) o _ _ [(6, vi (o : Int))] (by omega) hq.2 e1 ?_ (Or.inr ⟨_, rfl⟩) (by omega) (by omega)
          rw [e2, show zSv σ b 6 a = σ (b + 6) a from rfl]
          first
            | (rw [if_pos h46]; omega)
            | (rw [if_neg h46]; omega)
theorem c_La_layInPar {G : zG} {n : Nat} {σ : zSt} {b c : Nat} {k : Nat} (hn : 189 ≤ n) (hL : zLa SH c) (hS : zSw SH b) (hg : zGood σ b) (hbc : c + 6 ≤ b ∨ b + 10 ≤ c) (hk : k < 12) {D : Nat → Prop} (hD : ∀ y, D y → y < 12 ∧ (zby (σ (b + 4) y) = true → 0 ≤ σ (b + 5) y ∧ D (σ (b + 5) y).toNat)) (hDk : D k) : Gm G y_La_layInPar m_La_layInPar 1 0 0 [vr G c, vr G b, vi k] n SH σ (zV n SH (fun σ' => σ' = zLIP σ b c k)) := by
  refine g_enter (L := [(0, _), (1, _), (2, _)]) (by decide) rfl rfl rfl (Nat.le_of_ble_eq_true rfl) (fun X => ?_)
  refine g_iload_n (i := 2) (by decide +kernel) rfl ?_
  refine g_istore_n (i := 3) (L' := [(0, _), (1, _), (2, _), (3, _)]) (by decide +kernel) rfl rfl ?_
  refine g_iconst (a := 0) (by decide +kernel) ?_
  refine g_istore (i := 4) (L' := [(0, _), (1, _), (2, _), (3, _), (4, _)]) (by decide +kernel) rfl rfl ?_
  refine g_iconst (a := 0) (by decide +kernel) ?_
  refine g_istore (i := 5) (L' := [(0, _), (1, _), (2, _), (3, _), (4, _), (5, _)]) (by decide +kernel) rfl rfl ?_
  exact w_La_layInPar hn hL hS hg hbc hk hD 13 0 k _ _ [] rfl hDk rfl (by simp) (Or.inl rfl) (by omega) (by omega)
/-- what is laid within q, of those below i: begin, base, open of its own are as they should be, all else stays -/
def zLQ (σ τ : zSt) (b c q i : Nat) : Prop := (∀ a, a ≠ c + 3 → a ≠ c + 4 → a ≠ c + 5 → τ a = σ a) ∧
  (∀ j, (j < i ∧ q < j ∧ σ (b + 2) j = q) → τ (c + 3) j = zBg (zSv σ b) (σ (c + 2)) j ∧ τ (c + 4) j = (zBs (zSv σ b) 12 j : Int) ∧ τ (c + 5) j = (if zOp (zSv σ b) j = true then 1 else 0)) ∧
  (∀ j, ¬ (j < i ∧ q < j ∧ σ (b + 2) j = q) → τ (c + 3) j = σ (c + 3) j ∧ τ (c + 4) j = σ (c + 4) j ∧ τ (c + 5) j = σ (c + 5) j)
theorem zSv_eq {σ τ : zSt} {b : Nat} (h : ∀ r, r < 10 → τ (b + r) = σ (b + r)) : ∀ r, r < 10 → zSv τ b r = zSv σ b r := h
theorem zGood_eq {σ τ : zSt} {b : Nat} (h : ∀ r, r < 10 → τ (b + r) = σ (b + r)) (hg : zGood σ b) : zGood τ b := by
  obtain ⟨g1, g2, g3, g4⟩ := hg
  have h0 := h 0 (by decide)
  rw [Nat.add_zero] at h0
  refine ⟨by rw [h0]; exact g1, fun k hk => ?_, fun k hk => ?_, fun i hi => ?_⟩
  · rw [h 1 (by decide), h 2 (by decide), h 3 (by decide), h 4 (by decide), h 5 (by decide), h 6 (by decide)]
    exact g2 k hk
  · rw [h 7 (by decide)]; exact g3 k hk
  · rw [h 8 (by decide), h 9 (by decide)]; exact g4 i hi
theorem zBs_eq {S T : zSt} (h : ∀ r, r < 10 → T r = S r) : ∀ f k, zBs T f k = zBs S f k
  | 0, k => rfl
  | f + 1, k => by rw [zBs_s, zBs_s, h 4 (by decide), h 5 (by decide), zBs_eq h f]
theorem zBw_eq {S T : zSt} {ac : Nat → Int} (h : ∀ r, r < 10 → T r = S r) : ∀ f k, zBw T ac f k = zBw S ac f k
  | 0, k => rfl
  | f + 1, k => by rw [zBw_s, zBw_s, h 4 (by decide), h 5 (by decide), h 6 (by decide), zBw_eq h f]
theorem zOp_eq {S T : zSt} (h : ∀ r, r < 10 → T r = S r) (k : Nat) : zOp T k = zOp S k := by
  unfold zOp; rw [zBs_eq h, h 4 (by decide)]
theorem zBg_eq {S T : zSt} {ac : Nat → Int} (h : ∀ r, r < 10 → T r = S r) (k : Nat) : zBg T ac k = zBg S ac k := by
  unfold zBg; rw [zBw_eq h, zOp_eq h, zBs_eq h, h 6 (by decide)]
theorem zLQ_in {σ τ : zSt} {b c q i : Nat} (h : zLQ σ τ b c q i) (hbc : c + 6 ≤ b ∨ b + 10 ≤ c) : (∀ r, r < 10 → τ (b + r) = σ (b + r)) ∧ τ (c + 2) = σ (c + 2) ∧ τ (c + 1) = σ (c + 1) := ⟨fun r hr => h.1 _ (by omega) (by omega) (by omega), h.1 _ (by omega) (by omega) (by omega), h.1 _ (by omega) (by omega) (by omega)⟩
theorem zLQ_step {σ τ : zSt} {b c q i : Nat} (h : zLQ σ τ b c q i) (hbc : c + 6 ≤ b ∨ b + 10 ≤ c) (hq : q < i) (hi : σ (b + 2) i = q) : zLQ σ (zLIP τ b c i) b c q (i + 1) := by
  obtain ⟨e1, e2, -⟩ := zLQ_in h hbc
  obtain ⟨h1, h2, h3⟩ := h
  have s := zSv_eq e1
  unfold zLIP
  rw [zBs_eq s, zOp_eq s, zBg_eq s, e2]
  refine ⟨fun a a3 a4 a5 => by rw [zs_other a3, zs_other a5, zs_other a4]; exact h1 a a3 a4 a5, fun j hj => ?_, fun j hj => ?_⟩
  · by_cases e : j = i
    · subst e; simp [zs_app, zu_app]
    · have := h2 j ⟨by omega, hj.2⟩
      simpa [zs_app, zu_app, e] using this
  · have e : j ≠ i := fun e => hj (by subst e; exact ⟨by omega, hq, hi⟩)
    have := h3 j (fun z => hj ⟨by omega, z.2⟩)
    simpa [zs_app, zu_app, e] using this
theorem zLQ_skip {σ τ : zSt} {b c q i : Nat} (h : zLQ σ τ b c q i) (hi : ¬ (q < i ∧ σ (b + 2) i = q)) : zLQ σ τ b c q (i + 1) := by
  obtain ⟨h1, h2, h3⟩ := h
  refine ⟨h1, fun j hj => h2 j ⟨?_, hj.2⟩, fun j hj => h3 j (fun z => hj ⟨by omega, z.2⟩)⟩
  rcases Nat.lt_or_ge j i with z | z
  · exact z
  · exact absurd (by rw [show i = j by omega]; exact hj.2) hi
theorem zMx_in {S : zSt} {ac : Nat → Int} {q : Nat} {N : Nat} (h : ∀ j, j < N → S 2 j = q → zOp S j = false → 0 ≤ zBg S ac j + ac j ∧ zBg S ac j + ac j ≤ 2000000000) : ∀ i, i ≤ N → 0 ≤ zMx S ac q i ∧ zMx S ac q i ≤ 2000000000
  | 0, _ => ⟨Int.le_refl 0, show (0 : Int) ≤ 2000000000 by decide⟩
  | i + 1, hi => by
    have := zMx_in h i (by omega)
    rw [zMx_s]
    split
    · next z =>
      have := h i (by omega) z.2.1 z.2.2
      omega
    · exact this
theorem w_La_layAtOnce {G : zG} {X : zX} {n : Nat} {σ : zSt} {b c : Nat} (hn : 189 ≤ n) (hL : zLa SH c) (hS : zSw SH b) (hg : zGood σ b) (hbc : c + 6 ≤ b ∨ b + 10 ≤ c) {q : Nat} (hq : q < (σ b 0).toNat) (hcl : ∀ j, j < (σ b 0).toNat → σ (b + 2) j = q → zby (σ (b + 4) j) = true → 0 ≤ σ (b + 5) j ∧ (σ (b + 5) j).toNat < (σ b 0).toNat ∧ σ (b + 2) (σ (b + 5) j).toNat = q) (hbd : ∀ j, j < (σ b 0).toNat → σ (b + 2) j = q → zOp (zSv σ b) j = false → 0 ≤ zBg (zSv σ b) (σ (c + 2)) j + σ (c + 2) j ∧ zBg (zSv σ b) (σ (c + 2)) j + σ (c + 2) j ≤ 2000000000) : ∀ (m : Nat) (i : Nat) (x3 x4 : Int) (τ : zSt), x4 = (i : Int) → x3 = zMx (zSv σ b) (σ (c + 2)) q i → zLQ σ τ b c q i → q < i → i ≤ (σ b 0).toNat → (σ b 0).toNat < i + m → Go G X m_La_layAtOnce (2, 0, 0, 0, 0) n SH τ 7 [(0, vr G c), (1, vr G b), (2, vi (q : Int)), (3, vi x3), (4, vi x4)] [] (zI n SH (fun a σ' => a = zMx (zSv σ b) (σ (c + 2)) q (σ b 0).toNat ∧ zLQ σ σ' b c q (σ b 0).toNat)) := by
  intro m
  induction m with
  | zero => intro i x3 x4 τ e4 e3 ht hqi hi hm; exact absurd hm (by omega)
  | succ m ih =>
    intro i x3 x4 τ e4 e3 ht hqi hi hm
    have hb := hS.1
    have hcc := hL.1
    have hc := hg.1
    obtain ⟨u1, u2, u3⟩ := zLQ_in ht hbc
    have s0 : τ b 0 = σ b 0 := by rw [show τ b = σ b from u1 0 (by decide)]
    have tg := zGood_eq u1 hg
    have mx := zMx_in (S := (zSv σ b)) (ac := σ (c + 2)) hbd i hi
    subst e4 e3
    refine g_iload (i := 4) (by decide +kernel) rfl ?_
    refine g_aload_n (i := 1) (by decide +kernel) rfl ?_
    refine g_geti f_La_32 (by decide +kernel) (by omega) hS.a0 rfl ?_
    refine g_icmp_ge (off := 57) (tgt := 70) (by decide +kernel) (by decide) ⟨by omega, by omega⟩ ⟨by omega, by omega⟩ (fun h13 => ?_) (fun h13 => ?_)
    · refine g_iload_n (i := 3) (by decide +kernel) rfl ?_
      refine g_retI (by decide +kernel) rfl (Or.inl rfl) ⟨by decide, by decide⟩ ?_
      rw [show i = (σ b 0).toNat by omega] at ht ⊢
      exact ⟨rfl, ht⟩
    · have s2 : τ (b + 2) i = σ (b + 2) i := by rw [u1 2 (by decide)]
      have hki := hg.2.1 i (by omega)
      refine g_aload_n (i := 1) (by decide +kernel) rfl ?_
      refine g_getr f_La_60 (by decide +kernel) (by omega) hS.a0 rfl ?_
      refine g_iload (i := 4) (by decide +kernel) rfl ?_
      refine g_iald (j := i) (by decide +kernel) (by omega) hS.a2 rfl (by omega) (by decide) ?_
      refine g_iload_n (i := 2) (by decide +kernel) rfl ?_
      refine g_icmp_ne (off := 40) (tgt := 64) (by decide +kernel) (by decide) ⟨by omega, by omega⟩ ⟨by omega, by omega⟩ (fun h24 => ?_) (fun h24 => ?_)
      · refine g_iinc (i := 4) (b := 1) (L' := [(0, _), (1, _), (2, _), (3, _), (4, _)]) (by decide +kernel) rfl rfl rfl ?_
        refine g_goto (off := -60) (tgt := 7) (by decide +kernel) (by decide) ?_
        first
          | (have hz : τ (b + 2) i ≠ (q : Int) := h24
             exact ih (i + 1) _ _ _ (by omega) (by rw [zMx_s, if_neg (by show ¬ (_ ∧ σ (b + 2) i = q ∧ _); omega)]) (zLQ_skip ht (by omega)) (by omega) (by omega) (by omega))
          | (have hz : zOp (zSv σ b) i = true := ho
             exact ih (i + 1) _ _ _ (by omega) (by rw [zMx_s, if_neg (by rw [ho]; simp)]) st1 (by omega) (by omega) (by omega))
          | (have hz : zOp (zSv σ b) i = false := ho
             exact ih (i + 1) _ _ _ (by omega) (by rw [zMx_s, if_pos ⟨hqi, hqi2, ho⟩, z1.1, z4]) st1 (by omega) (by omega) (by omega))
      · have hqi2 : σ (b + 2) i = q := by omega
        have st1 := zLQ_step ht hbc hqi hqi2
        have bd := hbd i (by omega) hqi2
        have z1 := (st1.2.1 i ⟨by omega, hqi, hqi2⟩)
        refine g_aload_n (i := 0) (by decide +kernel) rfl ?_
        refine g_aload_n (i := 1) (by decide +kernel) rfl ?_
        refine g_iload (i := 4) (by decide +kernel) rfl ?_
        refine g_cVV (st := []) (c_La_layInPar (D := fun y => y < (σ b 0).toNat ∧ σ (b + 2) y = q) hn hL hS tg hbc (by omega) (fun y hy => ⟨by omega, fun h => by
          rw [u1 4 (by decide)] at h
          rw [u1 5 (by decide)]
          have := hcl y hy.1 hy.2 h
          exact ⟨this.1, this.2⟩⟩) ⟨by omega, hqi2⟩) k_La_layInPar l_La_63 (by decide +kernel) (by omega) hL.a0 rfl rfl rfl (Nat.le_of_ble_eq_true rfl) (by decide) ⟨by decide, by decide⟩ ?_
        rintro σ1 hσ
        obtain rfl := hσ.symm
        refine g_aload_n (i := 0) (by decide +kernel) rfl ?_
        refine g_getr f_La_24 (by decide +kernel) (by omega) hL.a0 rfl ?_
        refine g_iload (i := 4) (by decide +kernel) rfl ?_
        refine g_zald (j := i) (by decide +kernel) (by omega) hL.a5 rfl (by omega) (by decide) ?_
        refine g_if_ne (off := 23) (tgt := 64) (by decide +kernel) (by decide) ⟨by rw [z1.2.2]; split <;> decide, by rw [z1.2.2]; split <;> decide⟩ (fun h41 => ?_) (fun h41 => ?_)
        · have ho : zOp (zSv σ b) i = true := by
            cases hx : zOp (zSv σ b) i with
            | true => rfl
            | false => rw [z1.2.2, hx] at h41; simp at h41
          refine g_iinc (i := 4) (b := 1) (L' := [(0, _), (1, _), (2, _), (3, _), (4, _)]) (by decide +kernel) rfl rfl rfl ?_
          refine g_goto (off := -60) (tgt := 7) (by decide +kernel) (by decide) ?_
          first
            | (have hz : τ (b + 2) i ≠ (q : Int) := h24
               exact ih (i + 1) _ _ _ (by omega) (by rw [zMx_s, if_neg (by show ¬ (_ ∧ σ (b + 2) i = q ∧ _); omega)]) (zLQ_skip ht (by omega)) (by omega) (by omega) (by omega))
            | (have hz : zOp (zSv σ b) i = true := ho
               exact ih (i + 1) _ _ _ (by omega) (by rw [zMx_s, if_neg (by rw [ho]; simp)]) st1 (by omega) (by omega) (by omega))
            | (have hz : zOp (zSv σ b) i = false := ho
               exact ih (i + 1) _ _ _ (by omega) (by rw [zMx_s, if_pos ⟨hqi, hqi2, ho⟩, z1.1, z4]) st1 (by omega) (by omega) (by omega))
        · have ho : zOp (zSv σ b) i = false := by
            cases hx : zOp (zSv σ b) i with
            | false => rfl
            | true => rw [z1.2.2, if_pos hx] at h41; omega
          have bd2 := bd ho
          have z4 : zLIP τ b c i (c + 2) i = σ (c + 2) i := by rw [st1.1 _ (by omega) (by omega) (by omega)]
          refine g_iload_n (i := 3) (by decide +kernel) rfl ?_
          refine g_aload_n (i := 0) (by decide +kernel) rfl ?_
          refine g_getr f_La_18 (by decide +kernel) (by omega) hL.a0 rfl ?_
          refine g_iload (i := 4) (by decide +kernel) rfl ?_
          refine g_iald (j := i) (by decide +kernel) (by omega) hL.a3 rfl (by omega) (by decide) ?_
          refine g_aload_n (i := 0) (by decide +kernel) rfl ?_
          refine g_getr f_La_15 (by decide +kernel) (by omega) hL.a0 rfl ?_
          refine g_iload (i := 4) (by decide +kernel) rfl ?_
          refine g_iald (j := i) (by decide +kernel) (by omega) hL.a2 rfl (by omega) (by decide) ?_
          refine g_iadd (by decide +kernel) ?_
          refine g_max ma_max_La_67 (by decide +kernel) ⟨by omega, by omega⟩ ⟨by rw [z1.1, z4]; omega, by rw [z1.1, z4]; omega⟩ (Nat.le_of_ble_eq_true rfl) (by decide) ⟨by decide, by decide⟩ ?_
          refine g_istore_n (i := 3) (L' := [(0, _), (1, _), (2, _), (3, _), (4, _)]) (by decide +kernel) rfl rfl ?_
          refine g_iinc (i := 4) (b := 1) (L' := [(0, _), (1, _), (2, _), (3, _), (4, _)]) (by decide +kernel) rfl rfl rfl ?_
          refine g_goto (off := -60) (tgt := 7) (by decide +kernel) (by decide) ?_
          first
            | (have hz : τ (b + 2) i ≠ (q : Int) := h24
               exact ih (i + 1) _ _ _ (by omega) (by rw [zMx_s, if_neg (by show ¬ (_ ∧ σ (b + 2) i = q ∧ _); omega)]) (zLQ_skip ht (by omega)) (by omega) (by omega) (by omega))
            | (have hz : zOp (zSv σ b) i = true := ho
               exact ih (i + 1) _ _ _ (by omega) (by rw [zMx_s, if_neg (by rw [ho]; simp)]) st1 (by omega) (by omega) (by omega))
            | (have hz : zOp (zSv σ b) i = false := ho
               exact ih (i + 1) _ _ _ (by omega) (by rw [zMx_s, if_pos ⟨hqi, hqi2, ho⟩, z1.1, z4]) st1 (by omega) (by omega) (by omega))
theorem c_La_layAtOnce {G : zG} {n : Nat} {σ : zSt} {b c : Nat} (hn : 189 ≤ n) (hL : zLa SH c) (hS : zSw SH b) (hg : zGood σ b) (hbc : c + 6 ≤ b ∨ b + 10 ≤ c) {q : Nat} (hq : q < (σ b 0).toNat) (hcl : ∀ j, j < (σ b 0).toNat → σ (b + 2) j = q → zby (σ (b + 4) j) = true → 0 ≤ σ (b + 5) j ∧ (σ (b + 5) j).toNat < (σ b 0).toNat ∧ σ (b + 2) (σ (b + 5) j).toNat = q) (hbd : ∀ j, j < (σ b 0).toNat → σ (b + 2) j = q → zOp (zSv σ b) j = false → 0 ≤ zBg (zSv σ b) (σ (c + 2)) j + σ (c + 2) j ∧ zBg (zSv σ b) (σ (c + 2)) j + σ (c + 2) j ≤ 2000000000) : Gm G y_La_layAtOnce m_La_layAtOnce 2 0 0 [vr G c, vr G b, vi (q : Int)] n SH σ (zI n SH (fun a σ' => a = zMx (zSv σ b) (σ (c + 2)) q (σ b 0).toNat ∧ zLQ σ σ' b c q (σ b 0).toNat)) := by
  refine g_enter (L := [(0, _), (1, _), (2, _)]) (by decide) rfl rfl rfl (Nat.le_of_ble_eq_true rfl) (fun X => ?_)
  have hb := hS.1
  have hcc := hL.1
  have hc := hg.1
  refine g_iconst (a := 0) (by decide +kernel) ?_
  refine g_istore_n (i := 3) (L' := [(0, _), (1, _), (2, _), (3, _)]) (by decide +kernel) rfl rfl ?_
  refine g_iload_n (i := 2) (by decide +kernel) rfl ?_
  refine g_iconst (a := 1) (by decide +kernel) ?_
  refine g_iadd (by decide +kernel) ?_
  refine g_istore (i := 4) (L' := [(0, _), (1, _), (2, _), (3, _), (4, _)]) (by decide +kernel) rfl rfl ?_
  refine w_La_layAtOnce hn hL hS hg hbc hq hcl hbd 13 (q + 1) _ _ σ (by omega) ?_ ?_ (by omega) (by omega) (by omega)
  · have : ∀ i, i ≤ q + 1 → zMx (zSv σ b) (σ (c + 2)) q i = 0 := by
      intro i
      induction i with
      | zero => intro _; rfl
      | succ i ih => intro h; rw [zMx_s, if_neg (by omega)]; exact ih (by omega)
    exact (this _ (Nat.le_refl _)).symm
  · exact ⟨fun _ _ _ _ => rfl, fun j hj => by omega, fun _ _ => ⟨rfl, rfl, rfl⟩⟩
