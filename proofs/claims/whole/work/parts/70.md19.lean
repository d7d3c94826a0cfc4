/-! ONE PIECE of the reference -/
/-- the piece at hand is the i-th one -/
def zPh (τ S : zSt) (k : Nat) (i : Int) : Prop := zTm τ S k 2000 ∧ ∃ f l : Nat, f ≤ l ∧ l < 2000 ∧ τ 189 43 = f ∧ τ 189 44 = l ∧ zpc (zplay S k) 1 i 2 = f ∧ zpc (zplay S k) 1 i 3 = l ∧ zpc (zplay S k) 1 i 5 = zplay S k f ∧ zpc (zplay S k) 1 i 4 = (if f < l then zplay S k (f + 1) - zplay S k f else 0) ∧ ∀ s, f ≤ s → s ≤ l → zplay S k s ≠ -1
def zwq (S : zSt) (x : Nat → Int) (b c i : Int) : Int := if b = 0 ∨ i < 0 then 1 else if ¬ (0 ≤ c ∧ c < S 0 0) then 2 else 0
noncomputable def zwp (S : zSt) (x : Nat → Int) (b c i : Int) : Int := if zwq S x b c i ≠ 0 then zwq S x b c i else if (zMa (zplay S c.toNat) 1 x 2000).1 ≤ i then 8 else 0
theorem zwq_r {S : zSt} {x : Nat → Int} {b c i : Int} : 0 ≤ zwq S x b c i ∧ zwq S x b c i ≤ 2 := by
  unfold zwq
  split
  · decide
  · split
    · decide
    · decide
theorem zwq_0 {S : zSt} {x : Nat → Int} {b c i : Int} : zwq S x b c i = 0 ↔ (b ≠ 0 ∧ 0 ≤ i) ∧ (0 ≤ c ∧ c < S 0 0) := by
  unfold zwq
  by_cases h1 : b = 0 ∨ i < 0
  · rw [if_pos h1]; constructor
    · intro h; exact absurd h (by decide)
    · intro h; omega
  · rw [if_neg h1]
    by_cases h2 : 0 ≤ c ∧ c < S 0 0
    · rw [if_neg (fun y => y h2)]; exact ⟨fun _ => ⟨by omega, h2⟩, fun _ => rfl⟩
    · rw [if_pos h2]; constructor
      · intro h; exact absurd h (by decide)
      · intro h; exact absurd h.2 h2
theorem c_Md_stepOf {G : zG} {n : Nat} {σ : zSt} {S : zSt} {k f l : Nat} (hn : 220 ≤ n) (hM : zMz S) (hq : zTm σ S k 2000) (kN : k < zN S) (fl : f ≤ l) (l2 : l < 2000) (e3 : σ 189 43 = f) (e4 : σ 189 44 = l) (hp : ∀ s, f ≤ s → s ≤ l → zplay S k s ≠ -1) : Gm G y_Md_stepOf m_Md_stepOf 0 0 0 [vr G 189] n SH σ (zL n SH (fun a σ' => a = (if f < l then zplay S k (f + 1) - zplay S k f else 0) ∧ σ' = σ)) := by
  refine g_enter (L := [(0, _)]) (by decide) rfl rfl rfl (Nat.le_of_ble_eq_true rfl) (fun X => ?_)
  have q0 := hq.p hM kN (show f < 2000 by omega)
  have p0 := hp f (Nat.le_refl _) fl
  refine g_aload_n (i := 0) (by decide +kernel) rfl ?_
  refine g_geti f_Md_430 (by decide +kernel) (by omega) rfl rfl ?_
  refine g_aload_n (i := 0) (by decide +kernel) rfl ?_
  refine g_geti f_Md_433 (by decide +kernel) (by omega) rfl rfl ?_
  refine g_icmp_le (off := 27) (tgt := 35) (by decide +kernel) (by decide) ⟨by omega, by omega⟩ ⟨by omega, by omega⟩ (fun h8 => ?_) (fun h8 => ?_)
  · refine g_lconst (c := 0) (a := 0) (by decide +kernel) (by decide) ?_
    refine g_retL (by decide +kernel) rfl ⟨by decide, by decide⟩ ?_
    refine ⟨?_, rfl⟩
    first
      | rw [if_neg (by omega)]
      | (rw [if_pos (by omega)]
         have q1 := hq.p hM kN (show f + 1 < 2000 by omega)
         have p1 := hp (f + 1) (by omega) (by omega)
         omega)
  · refine g_aload_n (i := 0) (by decide +kernel) rfl ?_
    refine g_getr f_Md_127 (by decide +kernel) (by omega) rfl rfl ?_
    refine g_aload_n (i := 0) (by decide +kernel) rfl ?_
    refine g_geti f_Md_433 (by decide +kernel) (by omega) rfl rfl ?_
    refine g_iconst (a := 1) (by decide +kernel) ?_
    refine g_iadd (by decide +kernel) ?_
    refine g_lald (j := (f + 1)) (by decide +kernel) (by omega) rfl (by push_cast; omega) (by omega) (by decide) ?_
    refine g_aload_n (i := 0) (by decide +kernel) rfl ?_
    refine g_getr f_Md_127 (by decide +kernel) (by omega) rfl rfl ?_
    refine g_aload_n (i := 0) (by decide +kernel) rfl ?_
    refine g_geti f_Md_433 (by decide +kernel) (by omega) rfl rfl ?_
    refine g_lald (j := f) (by decide +kernel) (by omega) rfl (by omega) (by omega) (by decide) ?_
    refine g_lsub (by decide +kernel) ?_
    refine g_goto (off := 4) (tgt := 36) (by decide +kernel) (by decide) ?_
    refine g_retL (by decide +kernel) rfl ⟨by decide, by decide⟩ ?_
    refine ⟨?_, rfl⟩
    first
      | rw [if_neg (by omega)]
      | (rw [if_pos (by omega)]
         have q1 := hq.p hM kN (show f + 1 < 2000 by omega)
         have p1 := hp (f + 1) (by omega) (by omega)
         omega)
theorem w_Md_asksPiece {G : zG} {X : zX} {n : Nat} {σ : zSt} {S : zSt} {k : Nat} {x : Nat → Int} {b i : Int} (hn : 220 ≤ n) (hM : zMz S) (kN : k < zN S) (hz2 : (0 ≤ (k : Int) ∧ (k : Int) < S 0 0)) (hb : b ≠ 0) (hi0 : 0 ≤ i ∧ i ≤ 2147483647)  : ∀ (m : Nat) (T : Nat) (x4 x5 : Int) (τ : zSt), x4 = (T : Int) → x5 = (zMa (zplay S k) 1 x T).1 → zMF σ τ → τ 189 2 = 0 → zTm τ S k 2000 → zSt2 (zplay S k) x T → T ≤ 2000 → x5 ≤ i + 1 → (x5 = i + 1 → (zMa (zplay S k) 1 x 2000).1 > i ∧ zPh τ S k i) → 2000 < T + m → Go G X m_Md_asksPiece (19, 0, 0, 0, 0) n SH τ 54 [(0, vr G 189), (1, vi b), (2, vi (k : Int)), (3, vi i), (4, vi x4), (5, vi x5)] [] (zI n SH (fun a σ' => a = (if zwp S x b (k : Int) i = 0 then 1 else 0) ∧ zMF σ σ' ∧ σ' 189 2 = zwp S x b (k : Int) i ∧ (zwp S x b (k : Int) i = 0 → zPh σ' S k i))) := by
  intro m
  induction m with
  | zero => intro T x4 x5 τ e4 e5 hf s1 hq' hs hT hxi hlast hm; exact absurd hm (by omega)
  | succ m ih =>
    intro T x4 x5 τ e4 e5 hf s1 hq' hs hT hxi hlast hm
    subst e4
    have n0 := zMa_n (zplay S k) 1 x T
    have wq : zwq S x b (k : Int) i = 0 := zwq_0.mpr ⟨⟨hb, hi0.1⟩, hz2⟩
    refine g_iload (i := 5) (by decide +kernel) rfl ?_
    refine g_iload_n (i := 3) (by decide +kernel) rfl ?_
    refine g_icmp_gt (off := 34) (tgt := 91) (by decide +kernel) (by decide) ⟨by omega, by omega⟩ ⟨by omega, by omega⟩ (fun h57 => ?_) (fun h57 => ?_)
    · refine g_iconst (a := 1) (by decide +kernel) ?_
      refine g_retI (by decide +kernel) rfl (Or.inr ⟨rfl, by omega⟩) ⟨by decide, by decide⟩ ?_
      have L := hlast (by omega)
      have e8 : zwp S x b (k : Int) i = 0 := by unfold zwp; rw [if_neg (fun y => y wq), Int.toNat_natCast, if_neg (by omega)]
      rw [e8]
      exact ⟨by rw [if_pos rfl], hf, s1, fun _ => L.2⟩
    · refine g_aload_n (i := 0) (by decide +kernel) rfl ?_
      refine g_iload (i := 4) (by decide +kernel) rfl ?_
      refine g_cVI (st := _) (c_Md_goesPiece (T := T) (x := x) hn hM hq' kN hs hT) k_Md_goesPiece l_Md_439 (by decide +kernel) (by omega) rfl rfl rfl rfl (Nat.le_of_ble_eq_true rfl) (by decide) ⟨by decide, by decide⟩ ?_
      rintro a9 σ9 ⟨gf, hG⟩
      have a01 : a9 = 0 ∨ a9 = 1 := by rcases hG with hG | hG; exact Or.inl hG.1; exact Or.inr hG.1
      refine g_if_ne (off := 11) (tgt := 77) (by decide +kernel) (by decide) ⟨by omega, by omega⟩ (fun h66 => ?_) (fun h66 => ?_)
      · refine g_aload_n (i := 0) (by decide +kernel) rfl ?_
        refine g_geti f_Md_430 (by decide +kernel) (by omega) rfl rfl ?_
        refine g_iconst (a := 1) (by decide +kernel) ?_
        refine g_iadd (by decide +kernel) ?_
        refine g_istore (i := 4) (L' := [(0, _), (1, _), (2, _), (3, _), (4, _), (5, _)]) (by decide +kernel) rfl rfl ?_
        refine g_iinc (i := 5) (b := 1) (L' := [(0, _), (1, _), (2, _), (3, _), (4, _), (5, _)]) (by decide +kernel) rfl rfl rfl ?_
        refine g_goto (off := -34) (tgt := 54) (by decide +kernel) (by decide) ?_
        rcases hG with hG | ⟨-, f, l, g3, g4, hp, hu, hs2⟩
        · exfalso; omega
        · have fl := hp.2.2.2.2.2.2
          refine ih (l + 1) _ _ σ9 (by rw [g4]; push_cast; rfl) (by rw [hp.1, e5]) (hf.gf gf) (by rw [gf 189 2 (by omega)]; exact s1) (hq'.gf gf) hs2 (by omega) (by omega) (fun z => ?_) (by omega)
          obtain ⟨c2, c3, c5, c4, c6⟩ := zPi2_pc (n := i) hi0.1 hp (by omega) hu hs2
          exact ⟨c6, hq'.gf gf, f, l, fl.2, hu, g3, g4, c2, c3, c5, c4, hp.2.2.2.2.2.1⟩
      · refine g_aload_n (i := 0) (by decide +kernel) rfl ?_
        refine g_bipush (a := 8) (by decide +kernel) (by decide) ?_
        refine g_puti f_Md_145 (by decide +kernel) (by omega) rfl rfl ?_
        refine g_iconst (a := 0) (by decide +kernel) ?_
        refine g_retI (by decide +kernel) rfl (Or.inr ⟨rfl, by omega⟩) ⟨by decide, by decide⟩ ?_
        rcases hG with hG | hG
        · have e8 : zwp S x b (k : Int) i = 8 := by unfold zwp; rw [if_neg (fun y => y wq), Int.toNat_natCast, if_pos (by omega)]
          rw [e8]
          exact ⟨by rw [if_neg (by decide)], (hf.gf gf).put (by decide), zs_eq _ _ _ _, fun y => absurd y (by decide)⟩
        · exfalso; omega
theorem c_Md_asksPiece {G : zG} {n : Nat} {σ : zSt} {S : zSt} (hn : 220 ≤ n) (hM : zMz S) (hS : zMc σ S) {x : Nat → Int} {b c i : Int} (hb : b = 0 ∨ b = 1) (z1 : zr c) (z2 : zr i) : Gm G y_Md_asksPiece m_Md_asksPiece 19 0 0 [vr G 189, vi b, vi c, vi i] n SH σ (zI n SH (fun a σ' => a = (if zwp S x b c i = 0 then 1 else 0) ∧ zMF σ σ' ∧ σ' 189 2 = zwp S x b c i ∧ (zwp S x b c i = 0 → zPh σ' S c.toNat i))) := by
  refine g_enter (L := [(0, _), (1, _), (2, _), (3, _)]) (by decide) rfl rfl rfl (Nat.le_of_ble_eq_true rfl) (fun X => ?_)
  have e0 := hS.n
  have e8 := hS.p
  have hN := hS.N
  have hz : zN S = (S 0 0).toNat := rfl
  obtain ⟨z1a, z1b⟩ := id z1
  obtain ⟨z2a, z2b⟩ := id z2
  refine g_aload_n (i := 0) (by decide +kernel) rfl ?_
  refine g_iconst (a := 0) (by decide +kernel) ?_
  refine g_puti f_Md_142 (by decide +kernel) (by omega) rfl rfl ?_
  obtain ⟨τ, eτ⟩ : ∃ τ, τ = zs σ 189 3 0 := ⟨_, rfl⟩
  rw [← eτ]
  have f0 : zMF σ τ := by rw [eτ]; exact (zMF.rf σ).put (by decide)
  have hT : zMc τ S := hS.moved (f0.1 190 (by decide))
  have et := hT.n
  have J31 : ∀ v : Int, v = zwq S x b c i → Go G X m_Md_asksPiece (19, 0, 0, 0, 0) n SH τ 31 [(0, vr G 189), (1, vi b), (2, vi c), (3, vi i)] [vi v, vr G 189] (zI n SH (fun a σ' => a = (if zwp S x b c i = 0 then 1 else 0) ∧ zMF σ σ' ∧ σ' 189 2 = zwp S x b c i ∧ (zwp S x b c i = 0 → zPh σ' S c.toNat i))) := by
    intro v ev
    have vr0 := @zwq_r S x b c i
    obtain ⟨υ, eυ⟩ : ∃ υ, υ = zs τ 189 2 v := ⟨_, rfl⟩
    have f1 : zMF σ υ := by rw [eυ]; exact f0.put (by decide)
    have s1 : υ 189 2 = v := by rw [eυ, zs_eq]
    have hU : zMc υ S := hS.moved (f1.1 190 (by decide))
    refine g_puti f_Md_145 (by decide +kernel) (by omega) rfl rfl ?_
    rw [← eυ]
    refine g_aload_n (i := 0) (by decide +kernel) rfl ?_
    refine g_geti f_Md_145 (by decide +kernel) (by omega) rfl rfl ?_
    rw [s1]
    refine g_if_le (off := 5) (tgt := 43) (by decide +kernel) (by decide) ⟨by omega, by omega⟩ (fun h38 => ?_) (fun h38 => ?_)
    · have v0 : zwq S x b c i = 0 := by omega
      have zz := zwq_0.mp v0
      obtain ⟨k, rfl⟩ := Int.eq_ofNat_of_zero_le zz.2.1
      have kN : k < zN S := by omega
      refine g_aload_n (i := 0) (by decide +kernel) rfl ?_
      refine g_iload_n (i := 2) (by decide +kernel) rfl ?_
      refine g_cVV (st := _) (c_Md_laysTimes (k := k) hn hM hU kN) k_Md_laysTimes l_Md_436 (by decide +kernel) (by omega) rfl rfl rfl rfl (Nat.le_of_ble_eq_true rfl) (by decide) ⟨by decide, by decide⟩ ?_
      rintro ω ⟨hf, hP, hq⟩
      have f2 := f1.of (fun a ha => hf a (by omega))
      have s2 : ω 189 2 = 0 := by rw [hf 189 (by omega)]; omega
      refine g_iconst (a := 0) (by decide +kernel) ?_
      refine g_istore (i := 4) (L' := [(0, _), (1, _), (2, _), (3, _), (4, _)]) (by decide +kernel) rfl rfl ?_
      refine g_iconst (a := 0) (by decide +kernel) ?_
      refine g_istore (i := 5) (L' := [(0, _), (1, _), (2, _), (3, _), (4, _), (5, _)]) (by decide +kernel) rfl rfl ?_
      rw [Int.toNat_natCast]
      exact w_Md_asksPiece hn hM kN zz.2 zz.1.1 (by omega) 2001 0 _ _ ω rfl rfl f2 s2 hq (Or.inr (decide_eq_false (fun y => y.2.1 rfl))) (by omega) (by show (0 : Int) ≤ i + 1; omega) (fun y => by have y : (0 : Int) = i + 1 := y; omega) (by omega)
    · refine g_iconst (a := 0) (by decide +kernel) ?_
      refine g_retI (by decide +kernel) rfl (Or.inr ⟨rfl, by omega⟩) ⟨by decide, by decide⟩ ?_
      have e8 : zwp S x b c i = zwq S x b c i := by unfold zwp; rw [if_pos (by omega)]
      rw [e8]
      exact ⟨by rw [if_neg (by omega)], f1, by rw [s1]; exact ev, fun q => by omega⟩
  refine g_aload_n (i := 0) (by decide +kernel) rfl ?_
  refine g_iload_n (i := 1) (by decide +kernel) rfl ?_
  refine g_if_eq (off := 7) (tgt := 14) (by decide +kernel) (by decide) ⟨by omega, by omega⟩ (fun h7 => ?_) (fun h7 => ?_)
  · refine g_iconst (a := 1) (by decide +kernel) ?_
    refine g_goto (off := 16) (tgt := 31) (by decide +kernel) (by decide) ?_
    first
      | exact J31 _ (by unfold zwq; rw [if_pos (by omega)])
      | exact J31 _ (by unfold zwq; rw [if_neg (by omega), if_pos (by omega)])
      | exact J31 _ (by unfold zwq; rw [if_neg (by omega), if_neg (by omega)])
  · refine g_iload_n (i := 3) (by decide +kernel) rfl ?_
    refine g_if_ge (off := 7) (tgt := 18) (by decide +kernel) (by decide) ⟨by omega, by omega⟩ (fun h11 => ?_) (fun h11 => ?_)
    · refine g_aload_n (i := 0) (by decide +kernel) rfl ?_
      refine g_iload_n (i := 2) (by decide +kernel) rfl ?_
      refine g_cVI (st := _) (c_Md_isClip (k := c) hn (by assumption) (by rw [hT.n]; omega)) k_Md_isClip l_Md_313 (by decide +kernel) (by omega) rfl rfl rfl rfl (Nat.le_of_ble_eq_true rfl) (by decide) ⟨by decide, by decide⟩ ?_
      rintro a9 σ9 ⟨ea9, hσ9⟩
      obtain rfl := hσ9.symm
      rw [hT.n] at ea9
      subst ea9
      refine g_if_ne (off := 7) (tgt := 30) (by decide +kernel) (by decide) zbr (fun h23 => ?_) (fun h23 => ?_)
      · have h23 := zb1.mp h23
        refine g_iconst (a := 0) (by decide +kernel) ?_
        first
          | exact J31 _ (by unfold zwq; rw [if_pos (by omega)])
          | exact J31 _ (by unfold zwq; rw [if_neg (by omega), if_pos (by omega)])
          | exact J31 _ (by unfold zwq; rw [if_neg (by omega), if_neg (by omega)])
      · have h23 := zb0.mp h23
        refine g_iconst (a := 2) (by decide +kernel) ?_
        refine g_goto (off := 4) (tgt := 31) (by decide +kernel) (by decide) ?_
        first
          | exact J31 _ (by unfold zwq; rw [if_pos (by omega)])
          | exact J31 _ (by unfold zwq; rw [if_neg (by omega), if_pos (by omega)])
          | exact J31 _ (by unfold zwq; rw [if_neg (by omega), if_neg (by omega)])
    · refine g_iconst (a := 1) (by decide +kernel) ?_
      refine g_goto (off := 16) (tgt := 31) (by decide +kernel) (by decide) ?_
      first
        | exact J31 _ (by unfold zwq; rw [if_pos (by omega)])
        | exact J31 _ (by unfold zwq; rw [if_neg (by omega), if_pos (by omega)])
        | exact J31 _ (by unfold zwq; rw [if_neg (by omega), if_neg (by omega)])
theorem c_Md_piece {G : zG} {n : Nat} {σ : zSt} {S : zSt} (hn : 220 ≤ n) (hM : zMz S) (hS : zMc σ S) {x : Nat → Int} {c i w : Int} (z1 : zr c) (z2 : zr i) (z3 : zr w) : Gm G y_Md_piece m_Md_piece 20 0 0 [vr G 189, vi c, vi i, vi w] n SH σ (zI n SH (fun a σ' => zRM σ σ' a (zwp S x (if 0 ≤ w ∧ w ≤ 3 then (1 : Int) else 0) c i) (zpc (zplay S c.toNat) 1 i (2 + w).toNat))) := by
  refine g_enter (L := [(0, _), (1, _), (2, _), (3, _)]) (by decide) rfl rfl rfl (Nat.le_of_ble_eq_true rfl) (fun X => ?_)
  have e0 := hS.n
  have e8 := hS.p
  have hN := hS.N
  have hz : zN S = (S 0 0).toNat := rfl
  obtain ⟨z3a, z3b⟩ := id z3
  refine g_aload_n (i := 0) (by decide +kernel) rfl ?_
  refine g_iload_n (i := 3) (by decide +kernel) rfl ?_
  refine g_iconst (a := 0) (by decide +kernel) ?_
  refine g_iconst (a := 3) (by decide +kernel) ?_
  refine g_cSI (st := _) (c_Md_isIn z3 ⟨by omega, by omega⟩ ⟨by omega, by omega⟩) k_Md_isIn l_Md_152 (by decide +kernel) rfl rfl (Nat.le_of_ble_eq_true rfl) (by decide) ⟨by decide, by decide⟩ ?_
  rintro a9 σ9 ⟨ea9, hσ9⟩
  obtain rfl := hσ9.symm
  subst ea9
  refine g_iload_n (i := 1) (by decide +kernel) rfl ?_
  refine g_iload_n (i := 2) (by decide +kernel) rfl ?_
  have b01 : (if 0 ≤ w ∧ w ≤ 3 then (1 : Int) else 0) = 0 ∨ (if 0 ≤ w ∧ w ≤ 3 then (1 : Int) else 0) = 1 := zb01
  refine g_cVI (st := _) (c_Md_asksPiece (b := (if 0 ≤ w ∧ w ≤ 3 then (1 : Int) else 0)) (c := c) (i := i) (x := x) hn hM hS b01 z1 z2) k_Md_asksPiece l_Md_442 (by decide +kernel) (by omega) rfl rfl rfl rfl (Nat.le_of_ble_eq_true rfl) (by decide) ⟨by decide, by decide⟩ ?_
  rintro a9 τ ⟨ea9, hf, hs, hA⟩
  subst ea9
  refine g_if_ne (off := 5) (tgt := 17) (by decide +kernel) (by decide) zbr (fun h12 => ?_) (fun h12 => ?_)
  · have h12 := zb1.mp h12
    have h12x := h12
    obtain ⟨hq, f, l, fl, l2, e3, e4, c2, c3, c5, c4, hp⟩ := hA h12
    have s1 : τ 189 2 = 0 := by rw [hs]; exact h12x
    have zq : zwq S x (if 0 ≤ w ∧ w ≤ 3 then (1 : Int) else 0) c i = 0 := by
      by_cases y : zwq S x (if 0 ≤ w ∧ w ≤ 3 then (1 : Int) else 0) c i = 0
      · exact y
      · exfalso; unfold zwp at h12x; rw [if_pos y] at h12x; exact y h12x
    have zz := zwq_0.mp zq
    obtain ⟨k, rfl⟩ := Int.eq_ofNat_of_zero_le zz.2.1
    rw [Int.toNat_natCast] at hq c2 c3 c5 c4 hp
    have kN : k < zN S := by omega
    have qf := hq.p hM kN (show f < 2000 by omega)
    have pf := hp f (Nat.le_refl _) fl
    have w3 : 0 ≤ w ∧ w ≤ 3 := by
      by_cases y : 0 ≤ w ∧ w ≤ 3
      · exact y
      · exact absurd (if_neg y) zz.1.1
    refine g_iload_n (i := 3) (by decide +kernel) rfl ?_
    refine g_if_ne (off := 10) (tgt := 28) (by decide +kernel) (by decide) ⟨by omega, by omega⟩ (fun h18 => ?_) (fun h18 => ?_)
    · refine g_iload_n (i := 3) (by decide +kernel) rfl ?_
      refine g_iconst (a := 1) (by decide +kernel) ?_
      refine g_icmp_ne (off := 10) (tgt := 40) (by decide +kernel) (by decide) ⟨by omega, by omega⟩ ⟨by omega, by omega⟩ (fun h30 => ?_) (fun h30 => ?_)
      · refine g_iload_n (i := 3) (by decide +kernel) rfl ?_
        refine g_iconst (a := 2) (by decide +kernel) ?_
        refine g_icmp_ne (off := 11) (tgt := 53) (by decide +kernel) (by decide) ⟨by omega, by omega⟩ ⟨by omega, by omega⟩ (fun h42 => ?_) (fun h42 => ?_)
        · refine g_aload_n (i := 0) (by decide +kernel) rfl ?_
          refine g_getr f_Md_127 (by decide +kernel) (by omega) rfl rfl ?_
          refine g_aload_n (i := 0) (by decide +kernel) rfl ?_
          refine g_geti f_Md_433 (by decide +kernel) (by omega) rfl rfl ?_
          refine g_lald (j := f) (by decide +kernel) (by omega) rfl (by omega) (by omega) (by decide) ?_
          refine g_l2i (by decide +kernel) ?_
          refine g_retI (by decide +kernel) rfl (Or.inl rfl) ⟨by decide, by decide⟩ ?_
          first
            | exact zRM.no hf h12 hs
            | (refine zRM.ok hf h12x s1 ?_
               rw [Int.toNat_natCast]
               first
                 | (have hz : w = 0 := h18
                    rw [hz]; show _ = zpc (zplay S k) 1 i 2; omega)
                 | (have hz : w = 1 := h30
                    rw [hz]; show _ = zpc (zplay S k) 1 i 3; omega)
                 | (have hz : w = 2 := h42
                    rw [hz]; show _ = zpc (zplay S k) 1 i 4; rw [c4]; exact ea8)
                 | (have hz : w = 3 := by omega
                    rw [hz]; show _ = zpc (zplay S k) 1 i 5; omega))
        · refine g_aload_n (i := 0) (by decide +kernel) rfl ?_
          refine g_cVL (st := _) (c_Md_stepOf hn hM hq kN fl l2 e3 e4 hp) k_Md_stepOf l_Md_446 (by decide +kernel) (by omega) rfl rfl rfl rfl (Nat.le_of_ble_eq_true rfl) (by decide) ⟨by decide, by decide⟩ ?_
          rintro a8 σ8 ⟨ea8, hσ8⟩
          obtain rfl := hσ8.symm
          refine g_l2i (by decide +kernel) ?_
          refine g_goto (off := 13) (tgt := 63) (by decide +kernel) (by decide) ?_
          refine g_retI (by decide +kernel) rfl (Or.inl rfl) ⟨by decide, by decide⟩ ?_
          first
            | exact zRM.no hf h12 hs
            | (refine zRM.ok hf h12x s1 ?_
               rw [Int.toNat_natCast]
               first
                 | (have hz : w = 0 := h18
                    rw [hz]; show _ = zpc (zplay S k) 1 i 2; omega)
                 | (have hz : w = 1 := h30
                    rw [hz]; show _ = zpc (zplay S k) 1 i 3; omega)
                 | (have hz : w = 2 := h42
                    rw [hz]; show _ = zpc (zplay S k) 1 i 4; rw [c4]; exact ea8)
                 | (have hz : w = 3 := by omega
                    rw [hz]; show _ = zpc (zplay S k) 1 i 5; omega))
      · refine g_aload_n (i := 0) (by decide +kernel) rfl ?_
        refine g_geti f_Md_430 (by decide +kernel) (by omega) rfl rfl ?_
        refine g_goto (off := 26) (tgt := 63) (by decide +kernel) (by decide) ?_
        refine g_retI (by decide +kernel) rfl (Or.inl rfl) ⟨by decide, by decide⟩ ?_
        first
          | exact zRM.no hf h12 hs
          | (refine zRM.ok hf h12x s1 ?_
             rw [Int.toNat_natCast]
             first
               | (have hz : w = 0 := h18
                  rw [hz]; show _ = zpc (zplay S k) 1 i 2; omega)
               | (have hz : w = 1 := h30
                  rw [hz]; show _ = zpc (zplay S k) 1 i 3; omega)
               | (have hz : w = 2 := h42
                  rw [hz]; show _ = zpc (zplay S k) 1 i 4; rw [c4]; exact ea8)
               | (have hz : w = 3 := by omega
                  rw [hz]; show _ = zpc (zplay S k) 1 i 5; omega))
    · refine g_aload_n (i := 0) (by decide +kernel) rfl ?_
      refine g_geti f_Md_433 (by decide +kernel) (by omega) rfl rfl ?_
      refine g_goto (off := 38) (tgt := 63) (by decide +kernel) (by decide) ?_
      refine g_retI (by decide +kernel) rfl (Or.inl rfl) ⟨by decide, by decide⟩ ?_
      first
        | exact zRM.no hf h12 hs
        | (refine zRM.ok hf h12x s1 ?_
           rw [Int.toNat_natCast]
           first
             | (have hz : w = 0 := h18
                rw [hz]; show _ = zpc (zplay S k) 1 i 2; omega)
             | (have hz : w = 1 := h30
                rw [hz]; show _ = zpc (zplay S k) 1 i 3; omega)
             | (have hz : w = 2 := h42
                rw [hz]; show _ = zpc (zplay S k) 1 i 4; rw [c4]; exact ea8)
             | (have hz : w = 3 := by omega
                rw [hz]; show _ = zpc (zplay S k) 1 i 5; omega))
  · have h12 := zb0.mp h12
    refine g_iconst (a := -1) (by decide +kernel) ?_
    refine g_retI (by decide +kernel) rfl (Or.inl rfl) ⟨by decide, by decide⟩ ?_
    first
      | exact zRM.no hf h12 hs
      | (refine zRM.ok hf h12x s1 ?_
         rw [Int.toNat_natCast]
         first
           | (have hz : w = 0 := h18
              rw [hz]; show _ = zpc (zplay S k) 1 i 2; omega)
           | (have hz : w = 1 := h30
              rw [hz]; show _ = zpc (zplay S k) 1 i 3; omega)
           | (have hz : w = 2 := h42
              rw [hz]; show _ = zpc (zplay S k) 1 i 4; rw [c4]; exact ea8)
           | (have hz : w = 3 := by omega
              rw [hz]; show _ = zpc (zplay S k) 1 i 5; omega))
theorem w_Md_reach {G : zG} {X : zX} {n : Nat} {σ : zSt} {S τ : zSt} {k : Nat} {i w x4 : Int} {f l : Nat} {r : Int} (hn : 220 ≤ n) (hM : zMz S) (hq : zTm τ S k 2000) (kN : k < zN S) (hf : zMF σ τ) (s1 : τ 189 2 = 0) (e3 : τ 189 43 = (f : Int)) (e4 : τ 189 44 = (l : Int)) (l2 : l < 2000) (hw : 0 ≤ w ∧ w ≤ 2147483647) (hx4 : -100000000 ≤ x4 ∧ x4 ≤ 100000000)  : ∀ (m : Nat) (t q : Nat) (x6 : Int), x6 = (t : Int) → t + q = l + 1 → r = zfr (fun t => zrch x4 (zv S (t : Int) 2 k) w) q t → q < m → Go G X m_Md_reach (20, 0, 0, 0, 0) n SH τ 32 [(0, vr G 189), (1, vi (k : Int)), (2, vi i), (3, vi w), (4, vl x4), (6, vi x6)] [] (zI n SH (fun a σ' => zRM σ σ' a (if r = -1 then 8 else 0) r)) := by
  intro m
  induction m with
  | zero => intro t q x6 e6 tq er hm; exact absurd hm (by omega)
  | succ m ih =>
    intro t q x6 e6 tq er hm
    subst e6
    refine g_iload (i := 6) (by decide +kernel) rfl ?_
    refine g_aload_n (i := 0) (by decide +kernel) rfl ?_
    refine g_geti f_Md_430 (by decide +kernel) (by omega) rfl rfl ?_
    refine g_icmp_gt (off := 71) (tgt := 109) (by decide +kernel) (by decide) ⟨by omega, by omega⟩ ⟨by omega, by omega⟩ (fun h38 => ?_) (fun h38 => ?_)
    · refine g_aload_n (i := 0) (by decide +kernel) rfl ?_
      refine g_bipush (a := 8) (by decide +kernel) (by decide) ?_
      refine g_cVI (st := _) (c_Md_refuse hn) k_Md_refuse l_Md_295 (by decide +kernel) (by omega) rfl rfl rfl rfl (Nat.le_of_ble_eq_true rfl) (by decide) ⟨by decide, by decide⟩ ?_
      rintro a9 σ9 ⟨ea9, hσ9⟩
      obtain rfl := ea9.symm
      subst hσ9
      refine g_retI (by decide +kernel) rfl (Or.inl rfl) ⟨by decide, by decide⟩ ?_
      have z0 : q = 0 := by omega
      subst z0
      have er : r = -1 := er
      exact zRM.ref hf (if_pos er) (by decide)
    · obtain ⟨q, rfl⟩ : ∃ g, q = g + 1 := ⟨q - 1, by omega⟩
      rw [zfr_s] at er
      have qt := hq.p hM kN (show t < 2000 by omega)
      have qv := (hq t (by omega)).2
      refine g_lload (i := 4) (by decide +kernel) rfl ?_
      refine g_lconst (c := 0) (a := 0) (by decide +kernel) (by decide) ?_
      refine g_lcmp (by decide +kernel) ⟨by omega, by omega⟩ ⟨by omega, by omega⟩ ?_
      refine g_if_le (off := 19) (tgt := 64) (by decide +kernel) (by decide) zcmp_r (fun h45 => ?_) (fun h45 => ?_)
      · have h45 := zcmp_le.mp h45
        refine g_lload (i := 4) (by decide +kernel) rfl ?_
        refine g_lconst (c := 0) (a := 0) (by decide +kernel) (by decide) ?_
        refine g_lcmp (by decide +kernel) ⟨by omega, by omega⟩ ⟨by omega, by omega⟩ ?_
        refine g_if_ge (off := 19) (tgt := 87) (by decide +kernel) (by decide) zcmp_r (fun h68 => ?_) (fun h68 => ?_)
        · have h68 := zcmp_ge.mp h68
          refine g_aload_n (i := 0) (by decide +kernel) rfl ?_
          refine g_getr f_Md_127 (by decide +kernel) (by omega) rfl rfl ?_
          refine g_iload (i := 6) (by decide +kernel) rfl ?_
          refine g_lald (j := t) (by decide +kernel) (by omega) rfl (by omega) (by omega) (by decide) ?_
          refine g_iload_n (i := 3) (by decide +kernel) rfl ?_
          refine g_i2l (by decide +kernel) ⟨by omega, by omega⟩ ?_
          refine g_lcmp (by decide +kernel) ⟨by omega, by omega⟩ ⟨by omega, by omega⟩ ?_
          refine g_if_ne (off := 6) (tgt := 103) (by decide +kernel) (by decide) zcmp_r (fun h97 => ?_) (fun h97 => ?_)
          · have h97 := zcmp_ne.mp h97
            refine g_iinc (i := 6) (b := 1) (L' := [(0, _), (1, _), (2, _), (3, _), (4, _), (6, _)]) (by decide +kernel) rfl rfl rfl ?_
            refine g_goto (off := -74) (tgt := 32) (by decide +kernel) (by decide) ?_
            rw [if_neg (fun y => by have := of_decide_eq_true y; omega)] at er
            exact ih (t + 1) q _ (by push_cast; rfl) (by omega) er (by omega)
          · have h97 := zcmp_eq.mp h97
            refine g_iload (i := 6) (by decide +kernel) rfl ?_
            refine g_retI (by decide +kernel) rfl (Or.inl rfl) ⟨by decide, by decide⟩ ?_
            have hy : zrch x4 (zv S (t : Int) 2 k) w = true := decide_eq_true (by omega)
            rw [if_pos hy] at er
            exact zRM.ok hf (if_neg (by omega)) s1 er.symm
        · have h68 := zcmp_lt.mp h68
          refine g_aload_n (i := 0) (by decide +kernel) rfl ?_
          refine g_getr f_Md_127 (by decide +kernel) (by omega) rfl rfl ?_
          refine g_iload (i := 6) (by decide +kernel) rfl ?_
          refine g_lald (j := t) (by decide +kernel) (by omega) rfl (by omega) (by omega) (by decide) ?_
          refine g_iload_n (i := 3) (by decide +kernel) rfl ?_
          refine g_i2l (by decide +kernel) ⟨by omega, by omega⟩ ?_
          refine g_lcmp (by decide +kernel) ⟨by omega, by omega⟩ ⟨by omega, by omega⟩ ?_
          refine g_if_gt (off := 22) (tgt := 103) (by decide +kernel) (by decide) zcmp_r (fun h81 => ?_) (fun h81 => ?_)
          · have h81 := zcmp_gt.mp h81
            refine g_iinc (i := 6) (b := 1) (L' := [(0, _), (1, _), (2, _), (3, _), (4, _), (6, _)]) (by decide +kernel) rfl rfl rfl ?_
            refine g_goto (off := -74) (tgt := 32) (by decide +kernel) (by decide) ?_
            rw [if_neg (fun y => by have := of_decide_eq_true y; omega)] at er
            exact ih (t + 1) q _ (by push_cast; rfl) (by omega) er (by omega)
          · have h81 := zcmp_le.mp h81
            refine g_goto (off := 16) (tgt := 100) (by decide +kernel) (by decide) ?_
            refine g_iload (i := 6) (by decide +kernel) rfl ?_
            refine g_retI (by decide +kernel) rfl (Or.inl rfl) ⟨by decide, by decide⟩ ?_
            have hy : zrch x4 (zv S (t : Int) 2 k) w = true := decide_eq_true (by omega)
            rw [if_pos hy] at er
            exact zRM.ok hf (if_neg (by omega)) s1 er.symm
      · have h45 := zcmp_gt.mp h45
        refine g_aload_n (i := 0) (by decide +kernel) rfl ?_
        refine g_getr f_Md_127 (by decide +kernel) (by omega) rfl rfl ?_
        refine g_iload (i := 6) (by decide +kernel) rfl ?_
        refine g_lald (j := t) (by decide +kernel) (by omega) rfl (by omega) (by omega) (by decide) ?_
        refine g_iload_n (i := 3) (by decide +kernel) rfl ?_
        refine g_i2l (by decide +kernel) ⟨by omega, by omega⟩ ?_
        refine g_lcmp (by decide +kernel) ⟨by omega, by omega⟩ ⟨by omega, by omega⟩ ?_
        refine g_if_lt (off := 45) (tgt := 103) (by decide +kernel) (by decide) zcmp_r (fun h58 => ?_) (fun h58 => ?_)
        · have h58 := zcmp_lt.mp h58
          refine g_iinc (i := 6) (b := 1) (L' := [(0, _), (1, _), (2, _), (3, _), (4, _), (6, _)]) (by decide +kernel) rfl rfl rfl ?_
          refine g_goto (off := -74) (tgt := 32) (by decide +kernel) (by decide) ?_
          rw [if_neg (fun y => by have := of_decide_eq_true y; omega)] at er
          exact ih (t + 1) q _ (by push_cast; rfl) (by omega) er (by omega)
        · have h58 := zcmp_ge.mp h58
          refine g_goto (off := 39) (tgt := 100) (by decide +kernel) (by decide) ?_
          refine g_iload (i := 6) (by decide +kernel) rfl ?_
          refine g_retI (by decide +kernel) rfl (Or.inl rfl) ⟨by decide, by decide⟩ ?_
          have hy : zrch x4 (zv S (t : Int) 2 k) w = true := decide_eq_true (by omega)
          rw [if_pos hy] at er
          exact zRM.ok hf (if_neg (by omega)) s1 er.symm
theorem c_Md_reach {G : zG} {n : Nat} {σ : zSt} {S : zSt} (hn : 220 ≤ n) (hM : zMz S) (hS : zMc σ S) {x : Nat → Int} {c i w : Int} (z1 : zr c) (z2 : zr i) (z3 : zr w) : Gm G y_Md_reach m_Md_reach 20 0 0 [vr G 189, vi c, vi i, vi w] n SH σ (zI n SH (fun a σ' => zRM σ σ' a (if zwp S x (if 0 ≤ w then (1 : Int) else 0) c i ≠ 0 then zwp S x (if 0 ≤ w then (1 : Int) else 0) c i else if zfr (fun t => zrch (zpc (zplay S c.toNat) 1 i 4) (zv S (t : Int) 2 c.toNat) w) (zpc (zplay S c.toNat) 1 i 3 + 1 - zpc (zplay S c.toNat) 1 i 2).toNat (zpc (zplay S c.toNat) 1 i 2).toNat = -1 then 8 else 0) (zfr (fun t => zrch (zpc (zplay S c.toNat) 1 i 4) (zv S (t : Int) 2 c.toNat) w) (zpc (zplay S c.toNat) 1 i 3 + 1 - zpc (zplay S c.toNat) 1 i 2).toNat (zpc (zplay S c.toNat) 1 i 2).toNat))) := by
  refine g_enter (L := [(0, _), (1, _), (2, _), (3, _)]) (by decide) rfl rfl rfl (Nat.le_of_ble_eq_true rfl) (fun X => ?_)
  have e0 := hS.n
  have e8 := hS.p
  have hN := hS.N
  have hz : zN S = (S 0 0).toNat := rfl
  obtain ⟨z3a, z3b⟩ := id z3
  have J10 : ∀ v : Int, v = (if 0 ≤ w then (1 : Int) else 0) → Go G X m_Md_reach (20, 0, 0, 0, 0) n SH σ 10 [(0, vr G 189), (1, vi c), (2, vi i), (3, vi w)] [vi v, vr G 189] (zI n SH (fun a σ' => zRM σ σ' a (if zwp S x (if 0 ≤ w then (1 : Int) else 0) c i ≠ 0 then zwp S x (if 0 ≤ w then (1 : Int) else 0) c i else if zfr (fun t => zrch (zpc (zplay S c.toNat) 1 i 4) (zv S (t : Int) 2 c.toNat) w) (zpc (zplay S c.toNat) 1 i 3 + 1 - zpc (zplay S c.toNat) 1 i 2).toNat (zpc (zplay S c.toNat) 1 i 2).toNat = -1 then 8 else 0) (zfr (fun t => zrch (zpc (zplay S c.toNat) 1 i 4) (zv S (t : Int) 2 c.toNat) w) (zpc (zplay S c.toNat) 1 i 3 + 1 - zpc (zplay S c.toNat) 1 i 2).toNat (zpc (zplay S c.toNat) 1 i 2).toNat))) := by
    intro v ev
    subst ev
    refine g_iload_n (i := 1) (by decide +kernel) rfl ?_
    refine g_iload_n (i := 2) (by decide +kernel) rfl ?_
    have b01 : (if 0 ≤ w then (1 : Int) else 0) = 0 ∨ (if 0 ≤ w then (1 : Int) else 0) = 1 := zb01
    refine g_cVI (st := _) (c_Md_asksPiece (b := (if 0 ≤ w then (1 : Int) else 0)) (c := c) (i := i) (x := x) hn hM hS b01 z1 z2) k_Md_asksPiece l_Md_442 (by decide +kernel) (by omega) rfl rfl rfl rfl (Nat.le_of_ble_eq_true rfl) (by decide) ⟨by decide, by decide⟩ ?_
    rintro a9 τ ⟨ea9, hf, hs, hA⟩
    subst ea9
    refine g_if_ne (off := 5) (tgt := 20) (by decide +kernel) (by decide) zbr (fun h15 => ?_) (fun h15 => ?_)
    · have h15 := zb1.mp h15
      have h15x := h15
      obtain ⟨hq, f, l, fl, l2, e3, e4, c2, c3, c5, c4, hp⟩ := hA h15
      have s1 : τ 189 2 = 0 := by rw [hs]; exact h15x
      have zq : zwq S x (if 0 ≤ w then (1 : Int) else 0) c i = 0 := by
        by_cases y : zwq S x (if 0 ≤ w then (1 : Int) else 0) c i = 0
        · exact y
        · exfalso; unfold zwp at h15x; rw [if_pos y] at h15x; exact y h15x
      have zz := zwq_0.mp zq
      obtain ⟨k, rfl⟩ := Int.eq_ofNat_of_zero_le zz.2.1
      rw [Int.toNat_natCast] at hq c2 c3 c5 c4 hp
      have kN : k < zN S := by omega
      have qf := hq.p hM kN (show f < 2000 by omega)
      have pf := hp f (Nat.le_refl _) fl
      have w3 : 0 ≤ w := by
        by_cases y : 0 ≤ w
        · exact y
        · exact absurd (if_neg y) zz.1.1
      refine g_aload_n (i := 0) (by decide +kernel) rfl ?_
      refine g_cVL (st := _) (c_Md_stepOf hn hM hq kN fl l2 e3 e4 hp) k_Md_stepOf l_Md_446 (by decide +kernel) (by omega) rfl rfl rfl rfl (Nat.le_of_ble_eq_true rfl) (by decide) ⟨by decide, by decide⟩ ?_
      rintro a8 σ8 ⟨ea8, hσ8⟩
      obtain rfl := hσ8.symm
      subst ea8
      refine g_lstore (i := 4) (L' := [(0, _), (1, _), (2, _), (3, _), (4, _)]) (by decide +kernel) rfl rfl ?_
      refine g_aload_n (i := 0) (by decide +kernel) rfl ?_
      refine g_geti f_Md_433 (by decide +kernel) (by omega) rfl rfl ?_
      refine g_istore (i := 6) (L' := [(0, _), (1, _), (2, _), (3, _), (4, _), (6, _)]) (by decide +kernel) rfl rfl ?_
      have hne : ¬ zwp S x (if 0 ≤ w then (1 : Int) else 0) (k : Int) i ≠ 0 := fun y => y h15x
      rw [if_neg hne, Int.toNat_natCast, c4, c2, c3]
      have q1 : f + 1 < 2000 → -1 ≤ τ 215 (f + 1) ∧ τ 215 (f + 1) ≤ 80109810 := fun y => (hq.p hM kN y).2
      have q2 : f + 1 < 2000 → (zplay S k (f + 1) = -1 ∨ zplay S k (f + 1) = τ 215 (f + 1)) := fun y => by have := (hq.p hM kN y).1; omega
      exact w_Md_reach (f := f) (l := l) (w := w) (x4 := if f < l then zplay S k (f + 1) - zplay S k f else 0) hn hM hq kN hf s1 e3 e4 l2 (by omega) (by split <;> omega) 2001 f (l + 1 - f) _ (by omega) (by omega) (by rw [Int.toNat_natCast, show ((l : Int) + 1 - (f : Int)).toNat = l + 1 - f by omega]) (by omega)
    · have h15 := zb0.mp h15
      refine g_iconst (a := -1) (by decide +kernel) ?_
      refine g_retI (by decide +kernel) rfl (Or.inl rfl) ⟨by decide, by decide⟩ ?_
      refine zRM.no hf ?_ ?_
      · rw [if_pos h15]; exact h15
      · rw [if_pos h15]; exact hs
  refine g_aload_n (i := 0) (by decide +kernel) rfl ?_
  refine g_iload_n (i := 3) (by decide +kernel) rfl ?_
  refine g_if_lt (off := 7) (tgt := 9) (by decide +kernel) (by decide) ⟨by omega, by omega⟩ (fun h2 => ?_) (fun h2 => ?_)
  · refine g_iconst (a := 0) (by decide +kernel) ?_
    first
      | exact J10 _ (by rw [if_pos (by omega)])
      | exact J10 _ (by rw [if_neg (by omega)])
  · refine g_iconst (a := 1) (by decide +kernel) ?_
    refine g_goto (off := 4) (tgt := 10) (by decide +kernel) (by decide) ?_
    first
      | exact J10 _ (by rw [if_pos (by omega)])
      | exact J10 _ (by rw [if_neg (by omega)])
