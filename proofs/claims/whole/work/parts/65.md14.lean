theorem c_Md_asksLeaf {G : zG} {n : Nat} {σ : zSt} {S : zSt} (hn : 220 ≤ n) (hM : zMz S) (hS : zMc σ S) {c : Int} (z1 : zr c) : Gm G y_Md_asksLeaf m_Md_asksLeaf 19 0 0 [vr G 189, vi c] n SH σ (zI n SH (fun a σ' => a = (if zwl S c = 0 then 1 else 0) ∧ zMF σ σ' ∧ σ' 189 2 = zwl S c ∧ (zwl S c = 0 → zLs σ' S ∧ ∀ k, k < zN S → S 1 k = 0 → zLq σ' S k 2000))) := by
  refine g_enter (L := [(0, _), (1, _)]) (by decide) rfl rfl rfl (Nat.le_of_ble_eq_true rfl) (fun X => ?_)
  have e0 := hS.n
  have e8 := hS.p
  have hN := hS.N
  have hz : zN S = (S 0 0).toNat := rfl
  obtain ⟨z1a, z1b⟩ := id z1
  refine g_aload_n (i := 0) (by decide +kernel) rfl ?_
  refine g_iconst (a := 0) (by decide +kernel) ?_
  refine g_puti f_Md_142 (by decide +kernel) (by omega) rfl rfl ?_
  obtain ⟨τ, eτ⟩ : ∃ τ, τ = zs σ 189 3 0 := ⟨_, rfl⟩
  rw [← eτ]
  have f0 : zMF σ τ := by rw [eτ]; exact (zMF.rf σ).put (by decide)
  have hT : zMc τ S := hS.moved (f0.1 190 (by decide))
  have J31 : ∀ v : Int, v = zwl S c → Go G X m_Md_asksLeaf (19, 0, 0, 0, 0) n SH τ 31 [(0, vr G 189), (1, vi c)] [vi v, vr G 189] (zI n SH (fun a σ' => a = (if zwl S c = 0 then 1 else 0) ∧ zMF σ σ' ∧ σ' 189 2 = zwl S c ∧ (zwl S c = 0 → zLs σ' S ∧ ∀ k, k < zN S → S 1 k = 0 → zLq σ' S k 2000))) := by
    intro v ev
    have vr0 := @zwl_r S c
    obtain ⟨υ, eυ⟩ : ∃ υ, υ = zs τ 189 2 v := ⟨_, rfl⟩
    have f1 : zMF σ υ := by rw [eυ]; exact f0.put (by decide)
    have s1 : υ 189 2 = v := by rw [eυ, zs_eq]
    have hU : zMc υ S := hS.moved (f1.1 190 (by decide))
    refine g_puti f_Md_145 (by decide +kernel) (by omega) rfl rfl ?_
    rw [← eυ]
    refine g_aload_n (i := 0) (by decide +kernel) rfl ?_
    refine g_geti f_Md_145 (by decide +kernel) (by omega) rfl rfl ?_
    rw [s1]
    refine g_if_le (off := 5) (tgt := 43) (by decide +kernel) (by decide) ⟨by omega, by omega⟩ (fun h38 => ?_) (fun h38 => ?_)
    · refine g_aload_n (i := 0) (by decide +kernel) rfl ?_
      refine g_cVV (st := _) (c_Md_laysLights hn hM hU) k_Md_laysLights l_Md_424 (by decide +kernel) (by omega) rfl rfl rfl rfl (Nat.le_of_ble_eq_true rfl) (by decide) ⟨by decide, by decide⟩ ?_
      rintro ω ⟨hf, hg, hL, hq⟩
      have f2 : zMF σ ω := f1.tr ⟨fun a ha => hf a (by omega), fun j hj => hg j (by omega) (by omega)⟩
      refine g_iconst (a := 1) (by decide +kernel) ?_
      refine g_retI (by decide +kernel) rfl (Or.inr ⟨rfl, by omega⟩) ⟨by decide, by decide⟩ ?_
      exact ⟨by rw [if_pos (by omega)], f2, by rw [hg 2 (by decide) (by decide), s1]; exact ev, fun _ => ⟨hL, hq⟩⟩
    · refine g_iconst (a := 0) (by decide +kernel) ?_
      refine g_retI (by decide +kernel) rfl (Or.inr ⟨rfl, by omega⟩) ⟨by decide, by decide⟩ ?_
      exact ⟨by rw [if_neg (by omega)], f1, by rw [s1]; exact ev, fun q => by omega⟩
  refine g_aload_n (i := 0) (by decide +kernel) rfl ?_
  refine g_aload_n (i := 0) (by decide +kernel) rfl ?_
  refine g_iload_n (i := 1) (by decide +kernel) rfl ?_
  refine g_cVI (st := _) (c_Md_isClip (k := c) hn (by assumption) (by rw [hT.n]; omega)) k_Md_isClip l_Md_313 (by decide +kernel) (by omega) rfl rfl rfl rfl (Nat.le_of_ble_eq_true rfl) (by decide) ⟨by decide, by decide⟩ ?_
  rintro a9 σ9 ⟨ea9, hσ9⟩
  obtain rfl := hσ9.symm
  rw [hT.n] at ea9
  subst ea9
  refine g_if_ne (off := 7) (tgt := 18) (by decide +kernel) (by decide) zbr (fun h11 => ?_) (fun h11 => ?_)
  · have h11 := zb1.mp h11
    refine g_aload_n (i := 0) (by decide +kernel) rfl ?_
    refine g_iload_n (i := 1) (by decide +kernel) rfl ?_
    obtain ⟨k, rfl⟩ := Int.eq_ofNat_of_zero_le h11.1
    have kN : k < zN S := by omega
    have kk := hT.kd kN
    have kr := hS.rg (show k < 12 by omega)
    refine g_cVI (st := _) (c_Md_kind (k := k) hn (by omega)) k_Md_kind l_Md_182 (by decide +kernel) (by omega) rfl rfl rfl rfl (Nat.le_of_ble_eq_true rfl) (by decide) ⟨by decide, by decide⟩ ?_
    rintro a9 σ9 ⟨ea9, hσ9⟩
    obtain rfl := hσ9.symm
    rw [kk] at ea9
    subst ea9
    refine g_if_eq (off := 7) (tgt := 30) (by decide +kernel) (by decide) ⟨by omega, by omega⟩ (fun h23 => ?_) (fun h23 => ?_)
    · refine g_iconst (a := 0) (by decide +kernel) ?_
      first
        | (refine J31 2 ?_
           unfold zwl
           rw [if_pos (by omega)])
        | (refine J31 5 ?_
           unfold zwl
           rw [if_neg (by omega), Int.toNat_natCast, if_pos (by omega)])
        | (refine J31 0 ?_
           unfold zwl
           rw [if_neg (by omega), Int.toNat_natCast, if_neg (by omega)])
    · refine g_iconst (a := 5) (by decide +kernel) ?_
      refine g_goto (off := 4) (tgt := 31) (by decide +kernel) (by decide) ?_
      first
        | (refine J31 2 ?_
           unfold zwl
           rw [if_pos (by omega)])
        | (refine J31 5 ?_
           unfold zwl
           rw [if_neg (by omega), Int.toNat_natCast, if_pos (by omega)])
        | (refine J31 0 ?_
           unfold zwl
           rw [if_neg (by omega), Int.toNat_natCast, if_neg (by omega)])
  · have h11 := zb0.mp h11
    refine g_iconst (a := 2) (by decide +kernel) ?_
    refine g_goto (off := 16) (tgt := 31) (by decide +kernel) (by decide) ?_
    first
      | (refine J31 2 ?_
         unfold zwl
         rw [if_pos (by omega)])
      | (refine J31 5 ?_
         unfold zwl
         rw [if_neg (by omega), Int.toNat_natCast, if_pos (by omega)])
      | (refine J31 0 ?_
         unfold zwl
         rw [if_neg (by omega), Int.toNat_natCast, if_neg (by omega)])
theorem c_Md_seen {G : zG} {n : Nat} {σ : zSt} {S : zSt} (hn : 220 ≤ n) (hM : zMz S) (hS : zMc σ S) {c : Int} (z1 : zr c) : Gm G y_Md_seen m_Md_seen 20 0 0 [vr G 189, vi c] n SH σ (zI n SH (fun a σ' => zRM σ σ' a (zwl S c) (zcnt (fun s => decide (0 < zv S (s : Int) 7 c.toNat)) 2000 : Int))) := by
  refine g_enter (L := [(0, _), (1, _)]) (by decide) rfl rfl rfl (Nat.le_of_ble_eq_true rfl) (fun X => ?_)
  have e0 := hS.n
  have e8 := hS.p
  have hN := hS.N
  have hz : zN S = (S 0 0).toNat := rfl
  refine g_aload_n (i := 0) (by decide +kernel) rfl ?_
  refine g_iload_n (i := 1) (by decide +kernel) rfl ?_
  refine g_cVI (st := _) (c_Md_asksLeaf (c := c) hn hM hS z1) k_Md_asksLeaf l_Md_427 (by decide +kernel) (by omega) rfl rfl rfl rfl (Nat.le_of_ble_eq_true rfl) (by decide) ⟨by decide, by decide⟩ ?_
  rintro a9 τ ⟨ea9, hf, hs, hA⟩
  subst ea9
  refine g_if_eq (off := 12) (tgt := 17) (by decide +kernel) (by decide) zbr (fun h5 => ?_) (fun h5 => ?_)
  · have h5 := zb0.mp h5
    refine g_iconst (a := -1) (by decide +kernel) ?_
    refine g_retI (by decide +kernel) rfl (Or.inl rfl) ⟨by decide, by decide⟩ ?_
    first
      | exact zRM.no hf h5 hs
      | exact zRM.ok hf h5x s1 (by rw [Int.toNat_natCast]; exact q.1)
  · have h5 := zb1.mp h5
    have h5x := h5
    obtain ⟨hL, hq⟩ := hA h5
    have zz := zwl_0.mp h5x
    obtain ⟨k, rfl⟩ := Int.eq_ofNat_of_zero_le zz.1.1
    rw [Int.toNat_natCast] at zz
    have kN : k < zN S := by omega
    have q := hq k kN zz.2
    have s1 : τ 189 2 = 0 := by rw [hs]; exact h5x
    refine g_aload_n (i := 0) (by decide +kernel) rfl ?_
    refine g_getr f_Md_112 (by decide +kernel) (by omega) rfl rfl ?_
    refine g_iload_n (i := 1) (by decide +kernel) rfl ?_
    refine g_iald (j := k) (by decide +kernel) (by omega) rfl (by omega) (by omega) (by decide) ?_
    refine g_goto (off := 4) (tgt := 18) (by decide +kernel) (by decide) ?_
    refine g_retI (by decide +kernel) rfl (Or.inl rfl) ⟨by decide, by decide⟩ ?_
    first
      | exact zRM.no hf h5 hs
      | exact zRM.ok hf h5x s1 (by rw [Int.toNat_natCast]; exact q.1)
theorem c_Md_brightest {G : zG} {n : Nat} {σ : zSt} {S : zSt} (hn : 220 ≤ n) (hM : zMz S) (hS : zMc σ S) {c : Int} (z1 : zr c) : Gm G y_Md_brightest m_Md_brightest 20 0 0 [vr G 189, vi c] n SH σ (zI n SH (fun a σ' => zRM σ σ' a (if zwl S c ≠ 0 then zwl S c else if (zgr (fun s => zv S (s : Int) 7 c.toNat) (-1) 2000).2 = -1 then 8 else 0) (zgr (fun s => zv S (s : Int) 7 c.toNat) (-1) 2000).2)) := by
  refine g_enter (L := [(0, _), (1, _)]) (by decide) rfl rfl rfl (Nat.le_of_ble_eq_true rfl) (fun X => ?_)
  have e0 := hS.n
  have e8 := hS.p
  have hN := hS.N
  have hz : zN S = (S 0 0).toNat := rfl
  refine g_aload_n (i := 0) (by decide +kernel) rfl ?_
  refine g_iload_n (i := 1) (by decide +kernel) rfl ?_
  refine g_cVI (st := _) (c_Md_asksLeaf (c := c) hn hM hS z1) k_Md_asksLeaf l_Md_427 (by decide +kernel) (by omega) rfl rfl rfl rfl (Nat.le_of_ble_eq_true rfl) (by decide) ⟨by decide, by decide⟩ ?_
  rintro a9 τ ⟨ea9, hf, hs, hA⟩
  subst ea9
  refine g_if_ne (off := 5) (tgt := 10) (by decide +kernel) (by decide) zbr (fun h5 => ?_) (fun h5 => ?_)
  · have h5 := zb1.mp h5
    have h5x := h5
    obtain ⟨hL, hq⟩ := hA h5
    have zz := zwl_0.mp h5x
    obtain ⟨k, rfl⟩ := Int.eq_ofNat_of_zero_le zz.1.1
    rw [Int.toNat_natCast] at zz
    have kN : k < zN S := by omega
    have q := hq k kN zz.2
    have s1 : τ 189 2 = 0 := by rw [hs]; exact h5x
    have gi := zgr_in (f := fun s => zv S (s : Int) 7 k) (a := -1) (by decide) 2000
    have q4 := q.2.2.2
    refine g_aload_n (i := 0) (by decide +kernel) rfl ?_
    refine g_getr f_Md_115 (by decide +kernel) (by omega) rfl rfl ?_
    refine g_iload_n (i := 1) (by decide +kernel) rfl ?_
    refine g_iald (j := k) (by decide +kernel) (by omega) rfl (by omega) (by omega) (by decide) ?_
    refine g_if_ge (off := 12) (tgt := 28) (by decide +kernel) (by decide) ⟨by omega, by omega⟩ (fun h16 => ?_) (fun h16 => ?_)
    · refine g_aload_n (i := 0) (by decide +kernel) rfl ?_
      refine g_getr f_Md_115 (by decide +kernel) (by omega) rfl rfl ?_
      refine g_iload_n (i := 1) (by decide +kernel) rfl ?_
      refine g_iald (j := k) (by decide +kernel) (by omega) rfl (by omega) (by omega) (by decide) ?_
      refine g_retI (by decide +kernel) rfl (Or.inl rfl) ⟨by decide, by decide⟩ ?_
      first
        | (have hz : τ 211 k < 0 := h16
           exact zRM.ref hf (by rw [if_neg (fun y => y h5x), Int.toNat_natCast, if_pos (by omega)]) (by decide))
        | (have hz : 0 ≤ τ 211 k := h16
           exact zRM.ok hf (by rw [if_neg (fun y => y h5x), Int.toNat_natCast, if_neg (by omega)]) s1 (by rw [Int.toNat_natCast]; exact q4))
    · refine g_aload_n (i := 0) (by decide +kernel) rfl ?_
      refine g_bipush (a := 8) (by decide +kernel) (by decide) ?_
      refine g_cVI (st := _) (c_Md_refuse hn) k_Md_refuse l_Md_295 (by decide +kernel) (by omega) rfl rfl rfl rfl (Nat.le_of_ble_eq_true rfl) (by decide) ⟨by decide, by decide⟩ ?_
      rintro a9 σ9 ⟨ea9, hσ9⟩
      obtain rfl := ea9.symm
      subst hσ9
      refine g_goto (off := 9) (tgt := 34) (by decide +kernel) (by decide) ?_
      refine g_retI (by decide +kernel) rfl (Or.inl rfl) ⟨by decide, by decide⟩ ?_
      first
        | (have hz : τ 211 k < 0 := h16
           exact zRM.ref hf (by rw [if_neg (fun y => y h5x), Int.toNat_natCast, if_pos (by omega)]) (by decide))
        | (have hz : 0 ≤ τ 211 k := h16
           exact zRM.ok hf (by rw [if_neg (fun y => y h5x), Int.toNat_natCast, if_neg (by omega)]) s1 (by rw [Int.toNat_natCast]; exact q4))
  · have h5 := zb0.mp h5
    refine g_iconst (a := -1) (by decide +kernel) ?_
    refine g_retI (by decide +kernel) rfl (Or.inl rfl) ⟨by decide, by decide⟩ ?_
    refine zRM.no hf ?_ ?_
    · rw [if_pos h5]; exact h5
    · rw [if_pos h5]; exact hs
theorem zcnt_any {p : Nat → Bool} : ∀ {n : Nat}, (0 < zcnt p n ↔ zany p n = true)
  | 0 => ⟨fun h => absurd h (Nat.lt_irrefl 0), fun h => by cases h⟩
  | n + 1 => by
    have ih := zcnt_any (p := p) (n := n)
    unfold zany
    cases e : p n with
    | true => rw [zcnt_t e, Bool.or_true]; exact ⟨fun _ => rfl, fun _ => Nat.succ_pos _⟩
    | false => rw [zcnt_f e, Bool.or_false]; exact ih
def zhd (S : zSt) (j : Nat) : Prop := zany (fun s => decide (zv S (s : Int) 1 j = 2)) 2000 = true ∧ zany (fun s => decide (0 < zv S (s : Int) 7 j)) 2000 = false ∧ S 1 j = 0
noncomputable def zhb (S : zSt) (j : Nat) : Bool := zany (fun s => decide (zv S (s : Int) 1 j = 2)) 2000 && !(zany (fun s => decide (0 < zv S (s : Int) 7 j)) 2000) && decide (S 1 j = 0)
theorem zbits_or {A q : Nat → Bool} {k N : Nat} (hk : k < N) (hq : ∀ j, j < N → q j = (A j || decide (j = k))) : zbits A N ||| 2 ^ k = zbits q N := by
  apply Nat.eq_of_testBit_eq
  intro i
  rw [Nat.testBit_or, zbits_test, zbits_test, Nat.testBit_two_pow]
  by_cases hi : i < N
  · rw [hq i hi]
    by_cases e : i = k
    · subst e; simp [hk]
    · simp [hi, e, show ¬ k = i from fun y => e y.symm]
  · have : ¬ k = i := by omega
    simp [hi, this]
theorem w_Md_hidden {G : zG} {X : zX} {n : Nat} {σ : zSt} {S τ : zSt} (hn : 220 ≤ n) (hM : zMz S) (hf : zMF σ τ) (hs : τ 189 2 = 0) (hL : zLs τ S) (hq : ∀ k, k < zN S → S 1 k = 0 → zLq τ S k 2000)  : ∀ (m : Nat) (i : Nat) (x1 x2 : Int), x2 = (i : Int) → x1 = (zbits (fun j => zany (fun p => decide ((τ 208 p).toNat = j)) i && zhb S j) (zN S) : Int) → i ≤ zlvs S → zlvs S < i + m → Go G X m_Md_hidden (19, 0, 0, 0, 0) n SH τ 18 [(0, vr G 189), (1, vi x1), (2, vi x2)] [] (zI n SH (fun a σ' => zRM σ σ' a 0 (zbits (zhb S) (zN S) : Int))) := by
  intro m
  induction m with
  | zero => intro i x1 x2 e2 e1 hi hm; exact absurd hm (by omega)
  | succ m ih =>
    intro i x1 x2 e2 e1 hi hm
    have hN := hL.1.2.1.N
    have hz : zN S = (S 0 0).toNat := rfl
    have lz : zlvs S ≤ zN S := zcnt_le _ _
    obtain ⟨hL0, hL1, hL2⟩ := hL
    subst e2 e1
    have zb : zbits (fun j => zany (fun p => decide ((τ 208 p).toNat = j)) i && zhb S j) (zN S) < 2 ^ 12 := zbits_le (by omega)
    refine g_iload_n (i := 2) (by decide +kernel) rfl ?_
    refine g_aload_n (i := 0) (by decide +kernel) rfl ?_
    refine g_geti f_Md_403 (by decide +kernel) (by omega) rfl rfl ?_
    refine g_icmp_ge (off := 52) (tgt := 75) (by decide +kernel) (by decide) ⟨by omega, by omega⟩ ⟨by omega, by omega⟩ (fun h23 => ?_) (fun h23 => ?_)
    · refine g_iload_n (i := 1) (by decide +kernel) rfl ?_
      refine g_retI (by decide +kernel) rfl (Or.inl rfl) ⟨by decide, by decide⟩ ?_
      refine zRM.ok hf rfl hs ?_
      refine congrArg (fun x : Nat => (x : Int)) (zbits_congr (fun j hj => ?_))
      by_cases lj : S 1 j = 0
      · obtain ⟨p, p1, p2⟩ := hL2.all hj lj
        rw [zany_t (i := p) (decide_eq_true p2) (by omega), Bool.true_and]
      · have : zhb S j = false := by unfold zhb; rw [decide_eq_false lj, Bool.and_false]
        rw [this, Bool.and_false]
    · have q := hL2 i (by omega)
      obtain ⟨k, ek⟩ := Int.eq_ofNat_of_zero_le q.1
      have ek2 : (τ 208 i).toNat = k := by omega
      rw [ek2] at q
      have qq := hq k q.2.1 q.2.2.1
      have qq1 := qq.1
      have qq2 := qq.2.1
      have c1 := zcnt_le (fun s => decide (0 < zv S (s : Int) 7 k)) 2000
      have c2 := zcnt_le (fun s => decide (zv S (s : Int) 1 k = 2)) 2000
      have a1 := zcnt_any (p := fun s => decide (0 < zv S (s : Int) 7 k)) (n := 2000)
      have a2 := zcnt_any (p := fun s => decide (zv S (s : Int) 1 k = 2)) (n := 2000)
      have p2 : 2 ^ k < 2 ^ 12 := Nat.pow_lt_pow_right (by decide) (by omega)
      have zs1 : ∀ j, zany (fun p => decide ((τ 208 p).toNat = j)) (i + 1) = (zany (fun p => decide ((τ 208 p).toNat = j)) i || decide (k = j)) := fun j => by rw [← ek2]; rfl
      refine g_iload_n (i := 1) (by decide +kernel) rfl ?_
      refine g_aload_n (i := 0) (by decide +kernel) rfl ?_
      refine g_getr f_Md_121 (by decide +kernel) (by omega) rfl rfl ?_
      refine g_aload_n (i := 0) (by decide +kernel) rfl ?_
      refine g_getr f_Md_106 (by decide +kernel) (by omega) rfl rfl ?_
      refine g_iload_n (i := 2) (by decide +kernel) rfl ?_
      refine g_iald (j := i) (by decide +kernel) (by omega) rfl (by omega) (by omega) (by decide) ?_
      rw [ek]
      refine g_iald (j := k) (by decide +kernel) (by omega) rfl rfl (by omega) (by decide) ?_
      refine g_if_le (off := 28) (tgt := 66) (by decide +kernel) (by decide) ⟨by omega, by omega⟩ (fun h38 => ?_) (fun h38 => ?_)
      · refine g_iconst (a := 0) (by decide +kernel) ?_
        first
          | (have hz1 : τ 210 k = 0 := h52
             have hz2 : 0 < τ 213 k := h38
             have tr : zhb S k = true := by
               unfold zhb
               have u1 : zany (fun s => decide (0 < zv S (s : Int) 7 k)) 2000 = false := by
                 cases e : zany (fun s => decide (0 < zv S (s : Int) 7 k)) 2000 with
                 | false => rfl
                 | true => have := a1.mpr e; have := qq.1; omega
               have u2 : zany (fun s => decide (zv S (s : Int) 1 k = 2)) 2000 = true := a2.mp (by have := qq.2.1; omega)
               rw [u1, u2, decide_eq_true q.2.2.1]
               rfl
             refine g_ior (x := zbits (fun j => zany (fun p => decide ((τ 208 p).toNat = j)) i && zhb S j) (zN S)) (y := 2 ^ k) (by decide +kernel) (by omega) (by omega) ?_
             refine g_istore_n (i := 1) (L' := [(0, _), (1, _), (2, _)]) (by decide +kernel) rfl rfl ?_
             refine g_iinc (i := 2) (b := 1) (L' := [(0, _), (1, _), (2, _)]) (by decide +kernel) rfl rfl rfl ?_
             refine g_goto (off := -54) (tgt := 18) (by decide +kernel) (by decide) ?_
             refine ih (i + 1) _ _ (by push_cast; rfl) ?_ (by omega) (by omega)
             rw [zbits_or (q := fun j => zany (fun p => decide ((τ 208 p).toNat = j)) (i + 1) && zhb S j) q.2.1 (fun j hj => ?_)]
             rw [zs1]
             by_cases e : j = k
             · subst e; rw [tr]; simp
             · rw [decide_eq_false (fun y => e y.symm), decide_eq_false e, Bool.or_false, Bool.or_false])
          | (have fa : zhb S k = false := by
               unfold zhb
               by_cases e1 : zany (fun s => decide (zv S (s : Int) 1 k = 2)) 2000 = true
               · by_cases e2 : zany (fun s => decide (0 < zv S (s : Int) 7 k)) 2000 = true
                 · rw [e2, e1]; rfl
                 · have n1 : ¬ 0 < zcnt (fun s => decide (0 < zv S (s : Int) 7 k)) 2000 := fun y => e2 (a1.mp y)
                   have := a2.mpr e1
                   have := qq.1
                   have := qq.2.1
                   omega
               · rw [Bool.eq_false_iff.mpr e1]; rfl
             refine g_ior (x := zbits (fun j => zany (fun p => decide ((τ 208 p).toNat = j)) i && zhb S j) (zN S)) (y := 0) (by decide +kernel) (by omega) (by omega) ?_
             refine g_istore_n (i := 1) (L' := [(0, _), (1, _), (2, _)]) (by decide +kernel) rfl rfl ?_
             refine g_iinc (i := 2) (b := 1) (L' := [(0, _), (1, _), (2, _)]) (by decide +kernel) rfl rfl rfl ?_
             refine g_goto (off := -54) (tgt := 18) (by decide +kernel) (by decide) ?_
             refine ih (i + 1) _ _ (by push_cast; rfl) ?_ (by omega) (by omega)
             rw [Nat.or_zero]
             refine congrArg (fun x : Nat => (x : Int)) (zbits_congr (fun j hj => ?_))
             rw [zs1]
             by_cases e : j = k
             · subst e; rw [fa]; simp
             · rw [decide_eq_false (fun y => e y.symm), Bool.or_false])
      · refine g_aload_n (i := 0) (by decide +kernel) rfl ?_
        refine g_getr f_Md_112 (by decide +kernel) (by omega) rfl rfl ?_
        refine g_aload_n (i := 0) (by decide +kernel) rfl ?_
        refine g_getr f_Md_106 (by decide +kernel) (by omega) rfl rfl ?_
        refine g_iload_n (i := 2) (by decide +kernel) rfl ?_
        refine g_iald (j := i) (by decide +kernel) (by omega) rfl (by omega) (by omega) (by decide) ?_
        rw [ek]
        refine g_iald (j := k) (by decide +kernel) (by omega) rfl rfl (by omega) (by decide) ?_
        refine g_if_ne (off := 14) (tgt := 66) (by decide +kernel) (by decide) ⟨by omega, by omega⟩ (fun h52 => ?_) (fun h52 => ?_)
        · refine g_iconst (a := 0) (by decide +kernel) ?_
          first
            | (have hz1 : τ 210 k = 0 := h52
               have hz2 : 0 < τ 213 k := h38
               have tr : zhb S k = true := by
                 unfold zhb
                 have u1 : zany (fun s => decide (0 < zv S (s : Int) 7 k)) 2000 = false := by
                   cases e : zany (fun s => decide (0 < zv S (s : Int) 7 k)) 2000 with
                   | false => rfl
                   | true => have := a1.mpr e; have := qq.1; omega
                 have u2 : zany (fun s => decide (zv S (s : Int) 1 k = 2)) 2000 = true := a2.mp (by have := qq.2.1; omega)
                 rw [u1, u2, decide_eq_true q.2.2.1]
                 rfl
               refine g_ior (x := zbits (fun j => zany (fun p => decide ((τ 208 p).toNat = j)) i && zhb S j) (zN S)) (y := 2 ^ k) (by decide +kernel) (by omega) (by omega) ?_
               refine g_istore_n (i := 1) (L' := [(0, _), (1, _), (2, _)]) (by decide +kernel) rfl rfl ?_
               refine g_iinc (i := 2) (b := 1) (L' := [(0, _), (1, _), (2, _)]) (by decide +kernel) rfl rfl rfl ?_
               refine g_goto (off := -54) (tgt := 18) (by decide +kernel) (by decide) ?_
               refine ih (i + 1) _ _ (by push_cast; rfl) ?_ (by omega) (by omega)
               rw [zbits_or (q := fun j => zany (fun p => decide ((τ 208 p).toNat = j)) (i + 1) && zhb S j) q.2.1 (fun j hj => ?_)]
               rw [zs1]
               by_cases e : j = k
               · subst e; rw [tr]; simp
               · rw [decide_eq_false (fun y => e y.symm), decide_eq_false e, Bool.or_false, Bool.or_false])
            | (have fa : zhb S k = false := by
                 unfold zhb
                 by_cases e1 : zany (fun s => decide (zv S (s : Int) 1 k = 2)) 2000 = true
                 · by_cases e2 : zany (fun s => decide (0 < zv S (s : Int) 7 k)) 2000 = true
                   · rw [e2, e1]; rfl
                   · have n1 : ¬ 0 < zcnt (fun s => decide (0 < zv S (s : Int) 7 k)) 2000 := fun y => e2 (a1.mp y)
                     have := a2.mpr e1
                     have := qq.1
                     have := qq.2.1
                     omega
                 · rw [Bool.eq_false_iff.mpr e1]; rfl
               refine g_ior (x := zbits (fun j => zany (fun p => decide ((τ 208 p).toNat = j)) i && zhb S j) (zN S)) (y := 0) (by decide +kernel) (by omega) (by omega) ?_
               refine g_istore_n (i := 1) (L' := [(0, _), (1, _), (2, _)]) (by decide +kernel) rfl rfl ?_
               refine g_iinc (i := 2) (b := 1) (L' := [(0, _), (1, _), (2, _)]) (by decide +kernel) rfl rfl rfl ?_
               refine g_goto (off := -54) (tgt := 18) (by decide +kernel) (by decide) ?_
               refine ih (i + 1) _ _ (by push_cast; rfl) ?_ (by omega) (by omega)
               rw [Nat.or_zero]
               refine congrArg (fun x : Nat => (x : Int)) (zbits_congr (fun j hj => ?_))
               rw [zs1]
               by_cases e : j = k
               · subst e; rw [fa]; simp
               · rw [decide_eq_false (fun y => e y.symm), Bool.or_false])
        · refine g_iconst (a := 1) (by decide +kernel) ?_
          refine g_aload_n (i := 0) (by decide +kernel) rfl ?_
          refine g_getr f_Md_106 (by decide +kernel) (by omega) rfl rfl ?_
          refine g_iload_n (i := 2) (by decide +kernel) rfl ?_
          refine g_iald (j := i) (by decide +kernel) (by omega) rfl (by omega) (by omega) (by decide) ?_
          rw [ek]
          refine g_ishl1 (by decide +kernel) (by omega) ?_
          refine g_goto (off := 4) (tgt := 67) (by decide +kernel) (by decide) ?_
          first
            | (have hz1 : τ 210 k = 0 := h52
               have hz2 : 0 < τ 213 k := h38
               have tr : zhb S k = true := by
                 unfold zhb
                 have u1 : zany (fun s => decide (0 < zv S (s : Int) 7 k)) 2000 = false := by
                   cases e : zany (fun s => decide (0 < zv S (s : Int) 7 k)) 2000 with
                   | false => rfl
                   | true => have := a1.mpr e; have := qq.1; omega
                 have u2 : zany (fun s => decide (zv S (s : Int) 1 k = 2)) 2000 = true := a2.mp (by have := qq.2.1; omega)
                 rw [u1, u2, decide_eq_true q.2.2.1]
                 rfl
               refine g_ior (x := zbits (fun j => zany (fun p => decide ((τ 208 p).toNat = j)) i && zhb S j) (zN S)) (y := 2 ^ k) (by decide +kernel) (by omega) (by omega) ?_
               refine g_istore_n (i := 1) (L' := [(0, _), (1, _), (2, _)]) (by decide +kernel) rfl rfl ?_
               refine g_iinc (i := 2) (b := 1) (L' := [(0, _), (1, _), (2, _)]) (by decide +kernel) rfl rfl rfl ?_
               refine g_goto (off := -54) (tgt := 18) (by decide +kernel) (by decide) ?_
               refine ih (i + 1) _ _ (by push_cast; rfl) ?_ (by omega) (by omega)
               rw [zbits_or (q := fun j => zany (fun p => decide ((τ 208 p).toNat = j)) (i + 1) && zhb S j) q.2.1 (fun j hj => ?_)]
               rw [zs1]
               by_cases e : j = k
               · subst e; rw [tr]; simp
               · rw [decide_eq_false (fun y => e y.symm), decide_eq_false e, Bool.or_false, Bool.or_false])
            | (have fa : zhb S k = false := by
                 unfold zhb
                 by_cases e1 : zany (fun s => decide (zv S (s : Int) 1 k = 2)) 2000 = true
                 · by_cases e2 : zany (fun s => decide (0 < zv S (s : Int) 7 k)) 2000 = true
                   · rw [e2, e1]; rfl
                   · have n1 : ¬ 0 < zcnt (fun s => decide (0 < zv S (s : Int) 7 k)) 2000 := fun y => e2 (a1.mp y)
                     have := a2.mpr e1
                     have := qq.1
                     have := qq.2.1
                     omega
                 · rw [Bool.eq_false_iff.mpr e1]; rfl
               refine g_ior (x := zbits (fun j => zany (fun p => decide ((τ 208 p).toNat = j)) i && zhb S j) (zN S)) (y := 0) (by decide +kernel) (by omega) (by omega) ?_
               refine g_istore_n (i := 1) (L' := [(0, _), (1, _), (2, _)]) (by decide +kernel) rfl rfl ?_
               refine g_iinc (i := 2) (b := 1) (L' := [(0, _), (1, _), (2, _)]) (by decide +kernel) rfl rfl rfl ?_
               refine g_goto (off := -54) (tgt := 18) (by decide +kernel) (by decide) ?_
               refine ih (i + 1) _ _ (by push_cast; rfl) ?_ (by omega) (by omega)
               rw [Nat.or_zero]
               refine congrArg (fun x : Nat => (x : Int)) (zbits_congr (fun j hj => ?_))
               rw [zs1]
               by_cases e : j = k
               · subst e; rw [fa]; simp
               · rw [decide_eq_false (fun y => e y.symm), Bool.or_false])
theorem c_Md_hidden {G : zG} {n : Nat} {σ : zSt} {S : zSt} (hn : 220 ≤ n) (hM : zMz S) (hS : zMc σ S)  : Gm G y_Md_hidden m_Md_hidden 19 0 0 [vr G 189] n SH σ (zI n SH (fun a σ' => zRM σ σ' a 0 (zbits (zhb S) (zN S) : Int))) := by
  refine g_enter (L := [(0, _)]) (by decide) rfl rfl rfl (Nat.le_of_ble_eq_true rfl) (fun X => ?_)
  have e0 := hS.n
  have e8 := hS.p
  have hN := hS.N
  have hz : zN S = (S 0 0).toNat := rfl
  refine g_aload_n (i := 0) (by decide +kernel) rfl ?_
  refine g_iconst (a := 0) (by decide +kernel) ?_
  refine g_puti f_Md_142 (by decide +kernel) (by omega) rfl rfl ?_
  refine g_aload_n (i := 0) (by decide +kernel) rfl ?_
  refine g_iconst (a := 0) (by decide +kernel) ?_
  refine g_puti f_Md_145 (by decide +kernel) (by omega) rfl rfl ?_
  obtain ⟨τ, eτ⟩ : ∃ τ, τ = zs (zs σ 189 3 0) 189 2 0 := ⟨_, rfl⟩
  rw [← eτ]
  have f0 : zMF σ τ := by rw [eτ]; exact ((zMF.rf σ).put (by decide)).put (by decide)
  have s0 : τ 189 2 = 0 := by rw [eτ, zs_eq]
  have hT : zMc τ S := hS.moved (f0.1 190 (by decide))
  have et := hT.n
  have ep := hT.p
  refine g_aload_n (i := 0) (by decide +kernel) rfl ?_
  refine g_cVV (st := _) (c_Md_laysLights hn hM hT) k_Md_laysLights l_Md_424 (by decide +kernel) (by omega) rfl rfl rfl rfl (Nat.le_of_ble_eq_true rfl) (by decide) ⟨by decide, by decide⟩ ?_
  rintro ω ⟨hf, hg, hL, hq⟩
  have f2 : zMF σ ω := f0.tr ⟨fun a ha => hf a (by omega), fun j hj => hg j (by omega) (by omega)⟩
  refine g_iconst (a := 0) (by decide +kernel) ?_
  refine g_istore_n (i := 1) (L' := [(0, _), (1, _)]) (by decide +kernel) rfl rfl ?_
  refine g_iconst (a := 0) (by decide +kernel) ?_
  refine g_istore_n (i := 2) (L' := [(0, _), (1, _), (2, _)]) (by decide +kernel) rfl rfl ?_
  refine w_Md_hidden hn hM f2 (by rw [hg 2 (by decide) (by decide)]; exact s0) hL hq (zlvs S + 1) 0 _ _ rfl ?_ (by omega) (by omega)
  have : ∀ N, zbits (fun j => zany (fun p => decide ((ω 208 p).toNat = j)) 0 && zhb S j) N = 0 := by
    intro N
    induction N with
    | zero => rfl
    | succ N ih => rw [zbits_f (by rfl), ih]
  rw [this]
  rfl
