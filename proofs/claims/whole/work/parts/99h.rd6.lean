/-! READING: a mark, a clip -/
theorem zRo.b {b : Nat → Int} {n0 : Nat} {σ0 σ' : zSt} {r : (Int × Nat) ⊕ zAb} {a : Int} (h : zRo b n0 σ0 r a σ') : a = 0 ∨ a = 1 := by
  cases r with
  | inl f => exact Or.inl h.1
  | inr A => exact Or.inr h.1
theorem zTab0_r : ∀ w, w < 9 → 0 ≤ zTab 0 w ∧ zTab 0 w ≤ 999 := by decide
theorem zApp_oth {τ : zSt} {x y p : Int} {a : Nat} (h : a < 11 ∨ 20 < a) : zApp τ 11 x y p a = τ a := by
  unfold zApp
  rw [zrow_ne (by omega), zs_other (by omega), zs_other (by omega), zs_other (by omega), zs_other (by omega), zs_other (by omega), zs_other (by omega), zs_other (by omega)]
theorem zu_in {f : Nat → Int} {j k : Nat} {v lo hi : Int} (h : lo ≤ f k ∧ f k ≤ hi) (hv : lo ≤ v ∧ v ≤ hi) : lo ≤ zu f j v k ∧ zu f j v k ≤ hi := by
  by_cases e : k = j
  · rw [e, zu_eq]; exact hv
  · rw [zu_ne e]; exact h
theorem zGood.app {S : zSt} {x y p : Int} (h : zGood S 0) (hN : S 0 0 < 12) (hx : 0 ≤ x ∧ x ≤ 2) (hy : -1 ≤ y ∧ y ≤ 11) (hp : 0 ≤ p ∧ p ≤ 12) : zGood (zApp S 0 x y p) 0 := by
  obtain ⟨h1, h2, h3, h4⟩ := h
  obtain ⟨r0, r1, r2, r3, r4, r5, r6, r7, r8⟩ := zApp_r S x y p
  unfold zGood
  simp only [Nat.zero_add] at h1 h2 h3 h4 ⊢
  rw [r0, r1, r2, r3, r4, r5, r6, r7, r8 8 (by decide), r8 9 (by decide)]
  refine ⟨?_, fun k hk => ?_, fun j hj => ?_, h4⟩
  · rw [zu_eq, zu_ne (show (8 : Nat) ≠ 0 by decide)]; omega
  · obtain ⟨g1, g2, g3, g4, g5, g6⟩ := h2 k hk
    exact ⟨zu_in g1 hx, zu_in g2 hy, zu_in g3 hp, zu_in g4 (by decide), zu_in g5 (by decide), zu_in g6 (by decide)⟩
  · have e : j = 9 * (j / 9) + j % 9 := by omega
    rw [e, zmk_k _ _ _ _ (by omega)]
    split
    · exact zTab0_r _ (by omega)
    · rw [← e]; exact h3 j hj
theorem zcnt_12 {P : Nat → Bool} {n : Nat} (h : n ≤ 12) : 0 ≤ (zcnt P n : Int) ∧ (zcnt P n : Int) ≤ 12 := by have := zcnt_le P n; omega
theorem c_Rd_readMark {G : zG} {n : Nat} {σ σ0 : zSt} {b : Nat → Int} {n0 : Nat} {A : zAb} (hn : 189 ≤ n) (hb : zBt b) (hn0 : n0 ≤ 600) (hR : zRc b n0 σ0 A σ) (hA : zAi n0 A) {k : Nat} (hk : A.mk = (k : Int))  : Gm G y_Rd_readMark m_Rd_readMark 7 0 0 [vr G 179, vi (k : Int)] n SH σ (zI n SH (fun a σ' => zRo b n0 σ0 (zpK b n0 A k) a σ')) := by
  refine g_enter (L := [(0, _), (1, _)]) (by decide) rfl rfl rfl (Nat.le_of_ble_eq_true rfl) (fun X => ?_)
  have hq := hA.1
  have hG := hA.2.1
  have nr := znx_r (b := b) hq
  obtain ⟨⟨a1, a2⟩, ⟨a3, a3b, a3c, a3d⟩, ⟨a4, a5, a6, a7, a8⟩, ⟨a9, a10⟩, a11, a12⟩ := id hR
  have tr := @zTt_r b n0 A.q
  have tb := zTb_r (b := b) hq
  have hB : zBt (σ 178) := by rw [a2]; exact hb
  have mk2 := hA.2.2.2.1
  have hD12 : A.D 0 0 ≤ 12 := hG.1.2.1
  have k12 : k < 12 := by omega
  have ht := hA.2.2.2.2.2
  have a6 := a6 (by omega)
  refine g_aload_n (i := 0) (by decide +kernel) rfl ?_
  refine g_cVI (st := _) (c_Rd_wordNumber hn (by omega) (by omega) (by omega) (fun y => by have y1 := zTs_wr (b := b) (n0 := n0) (q := A.q) (by omega) (by omega); rw [a3d]; exact ⟨by omega, by omega⟩)) k_Rd_wordNumber l_Rd_96 (by decide +kernel) (by omega) rfl rfl rfl rfl (Nat.le_of_ble_eq_true rfl) (by decide) ⟨by decide, by decide⟩ ?_
  rintro a9_ σ9 ⟨ea9, hσ9⟩
  obtain rfl := hσ9.symm
  rw [a3, a3b, a3c, a3d] at ea9
  have ea9 : a9_ = zkw b n0 A.q := ea9
  have kr := @zkw_r b n0 A.q
  refine g_istore_n (i := 2) (L' := [(0, _), (1, _), (2, _)]) (by decide +kernel) rfl rfl ?_
  refine g_iload_n (i := 2) (by decide +kernel) rfl ?_
  refine g_iconst (a := 3) (by decide +kernel) ?_
  refine g_icmp_ge (off := 8) (tgt := 15) (by decide +kernel) (by decide) ⟨by omega, by omega⟩ ⟨by omega, by omega⟩ (fun h7 => ?_) (fun h7 => ?_)
  · obtain ⟨I, hI⟩ : ∃ I : Nat, I = (min (zkw b n0 A.q) 12).toNat := ⟨_, rfl⟩
    have eI : min a9_ 12 = (I : Int) := by omega
    have I12 : I ≤ 12 := by omega
    have p2 : (2 : Nat) ^ I ≤ 2 ^ 12 := Nat.pow_le_pow_right (by decide) I12
    have p3 : (2 : Nat) ^ 12 = 4096 := rfl
    have p4 : (2 : Nat) ^ 13 = 8192 := rfl
    obtain ⟨Y, hY⟩ : ∃ Y : Nat, Y = A.td &&& 2 ^ I := ⟨_, rfl⟩
    have Yr : Y ≤ A.td := by rw [hY]; exact Nat.and_le_left
    refine g_iconst (a := 1) (by decide +kernel) ?_
    refine g_iload_n (i := 2) (by decide +kernel) rfl ?_
    refine g_bipush (a := 12) (by decide +kernel) (by decide) ?_
    refine g_min ma_min_Rd_128 (by decide +kernel) ⟨by omega, by omega⟩ ⟨by omega, by omega⟩ (Nat.le_of_ble_eq_true rfl) (by decide) ⟨by decide, by decide⟩ ?_
    rw [eI]
    refine g_ishl1 (by decide +kernel) (by omega) ?_
    refine g_istore_n (i := 3) (L' := [(0, _), (1, _), (2, _), (3, _)]) (by decide +kernel) rfl rfl ?_
    refine g_aload_n (i := 0) (by decide +kernel) rfl ?_
    refine g_geti f_Rd_121 (by decide +kernel) (by omega) rfl rfl ?_
    refine g_iload_n (i := 3) (by decide +kernel) rfl ?_
    rw [a6]
    refine g_iand (by decide +kernel) (by omega) (by omega) ?_
    rw [← hY]
    refine g_if_eq (off := 9) (tgt := 39) (by decide +kernel) (by decide) ⟨by omega, by omega⟩ (fun h30 => ?_) (fun h30 => ?_)
    · refine g_aload_n (i := 0) (by decide +kernel) rfl ?_
      refine g_dup (by decide +kernel) rfl ?_
      refine g_geti f_Rd_121 (by decide +kernel) (by omega) rfl rfl ?_
      refine g_iload_n (i := 3) (by decide +kernel) rfl ?_
      rw [a6]
      refine g_ior (by decide +kernel) (by omega) (by omega) ?_
      refine g_puti f_Rd_121 (by decide +kernel) (by omega) rfl rfl ?_
      refine g_iload_n (i := 2) (by decide +kernel) rfl ?_
      refine g_bipush (a := 12) (by decide +kernel) (by decide) ?_
      refine g_icmp_ge (off := 14) (tgt := 66) (by decide +kernel) (by decide) ⟨by omega, by omega⟩ ⟨by omega, by omega⟩ (fun h52 => ?_) (fun h52 => ?_)
      · refine g_aload_n (i := 0) (by decide +kernel) rfl ?_
        refine g_iload_n (i := 1) (by decide +kernel) rfl ?_
        refine g_iload_n (i := 2) (by decide +kernel) rfl ?_
        refine g_bipush (a := 12) (by decide +kernel) (by decide) ?_
        refine g_isub (by decide +kernel) ?_
        rw [show a9_ - 12 = zkw b n0 A.q - 12 by rw [ea9]]
        obtain ⟨υ, eυ⟩ : ∃ υ, υ = zs σ 179 12 ((A.td ||| 2 ^ I : Nat) : Int) := ⟨_, rfl⟩
        refine g_eq (σ' := υ) ?_ eυ.symm rfl rfl
        have hU : zRc b n0 σ0 (zAm A.q A.D A.nm A.sn (A.td ||| 2 ^ (min (zkw b n0 A.q) 12).toNat) A.op A.mk) υ := by
          rw [eυ, ← hI]
          exact hR.upd rfl (fun j _ _ h3 => by rw [zs_ne (by omega)]) (fun a _ h2 _ _ => by rw [zs_other h2]) (by rw [zs_ne (by decide)]; exact a4) (by rw [zs_ne (by decide)]; exact a5) (fun _ => by rw [zs_eq]) (by rw [zs_other (by decide)]; exact a9) (by rw [zs_other (by decide)]; exact a10) (a11.oth (fun r hr => by rw [zs_other (by omega)]))
        have hAU : zAi n0 (zAm A.q A.D A.nm A.sn (A.td ||| 2 ^ (min (zkw b n0 A.q) 12).toNat) A.op A.mk) := ⟨hA.1, hA.2.1, hA.2.2.1, hA.2.2.2.1, hA.2.2.2.2.1, by rw [← hI]; exact Nat.or_lt_two_pow (n := 13) hA.2.2.2.2.2 (by omega)⟩
        refine g_cVI (st := _) (c_Rd_readStart hn hb hn0 hU hAU hk ⟨by omega, by omega⟩) k_Rd_readStart l_Rd_137 (by decide +kernel) (by omega) rfl rfl rfl rfl (Nat.le_of_ble_eq_true rfl) (by decide) ⟨by decide, by decide⟩ ?_
        rintro a8 σ8 hres
        have ea8 := hres.b
        refine g_retI (by decide +kernel) rfl (Or.inr ⟨rfl, by omega⟩) ⟨by decide, by decide⟩ ?_
        show zRo _ _ _ _ _ _
        have er : zpK b n0 A k = if zkw b n0 A.q < 12 then zpM b n0 (zAm A.q A.D A.nm A.sn (A.td ||| 2 ^ (min (zkw b n0 A.q) 12).toNat) A.op A.mk) k (zkw b n0 A.q - 3).toNat else zpB b n0 (zAm A.q A.D A.nm A.sn (A.td ||| 2 ^ (min (zkw b n0 A.q) 12).toNat) A.op A.mk) k (zkw b n0 A.q - 12) := by
          unfold zpK
          rw [← hI, ← hY, if_neg (by omega), if_neg (by omega)]
        rw [er]
        first
          | (rw [if_pos (by omega)]; exact hres)
          | (rw [if_neg (by omega)]; exact hres)
      · refine g_aload_n (i := 0) (by decide +kernel) rfl ?_
        refine g_iload_n (i := 1) (by decide +kernel) rfl ?_
        refine g_iload_n (i := 2) (by decide +kernel) rfl ?_
        refine g_iconst (a := 3) (by decide +kernel) ?_
        refine g_isub (by decide +kernel) ?_
        rw [show a9_ - 3 = (((zkw b n0 A.q - 3).toNat : Nat) : Int) by omega]
        obtain ⟨υ, eυ⟩ : ∃ υ, υ = zs σ 179 12 ((A.td ||| 2 ^ I : Nat) : Int) := ⟨_, rfl⟩
        refine g_eq (σ' := υ) ?_ eυ.symm rfl rfl
        have hU : zRc b n0 σ0 (zAm A.q A.D A.nm A.sn (A.td ||| 2 ^ (min (zkw b n0 A.q) 12).toNat) A.op A.mk) υ := by
          rw [eυ, ← hI]
          exact hR.upd rfl (fun j _ _ h3 => by rw [zs_ne (by omega)]) (fun a _ h2 _ _ => by rw [zs_other h2]) (by rw [zs_ne (by decide)]; exact a4) (by rw [zs_ne (by decide)]; exact a5) (fun _ => by rw [zs_eq]) (by rw [zs_other (by decide)]; exact a9) (by rw [zs_other (by decide)]; exact a10) (a11.oth (fun r hr => by rw [zs_other (by omega)]))
        have hAU : zAi n0 (zAm A.q A.D A.nm A.sn (A.td ||| 2 ^ (min (zkw b n0 A.q) 12).toNat) A.op A.mk) := ⟨hA.1, hA.2.1, hA.2.2.1, hA.2.2.2.1, hA.2.2.2.2.1, by rw [← hI]; exact Nat.or_lt_two_pow (n := 13) hA.2.2.2.2.2 (by omega)⟩
        refine g_cVI (st := _) (c_Rd_readMarkNumber hn hb hn0 hU hAU hk (by omega)) k_Rd_readMarkNumber l_Rd_133 (by decide +kernel) (by omega) rfl rfl rfl rfl (Nat.le_of_ble_eq_true rfl) (by decide) ⟨by decide, by decide⟩ ?_
        rintro a8 σ8 hres
        have ea8 := hres.b
        refine g_goto (off := 12) (tgt := 75) (by decide +kernel) (by decide) ?_
        refine g_retI (by decide +kernel) rfl (Or.inr ⟨rfl, by omega⟩) ⟨by decide, by decide⟩ ?_
        show zRo _ _ _ _ _ _
        have er : zpK b n0 A k = if zkw b n0 A.q < 12 then zpM b n0 (zAm A.q A.D A.nm A.sn (A.td ||| 2 ^ (min (zkw b n0 A.q) 12).toNat) A.op A.mk) k (zkw b n0 A.q - 3).toNat else zpB b n0 (zAm A.q A.D A.nm A.sn (A.td ||| 2 ^ (min (zkw b n0 A.q) 12).toNat) A.op A.mk) k (zkw b n0 A.q - 12) := by
          unfold zpK
          rw [← hI, ← hY, if_neg (by omega), if_neg (by omega)]
        rw [er]
        first
          | (rw [if_pos (by omega)]; exact hres)
          | (rw [if_neg (by omega)]; exact hres)
    · refine g_aload_n (i := 0) (by decide +kernel) rfl ?_
      refine g_iconst (a := 5) (by decide +kernel) ?_
      refine g_cVI (st := _) (c_Rd_failWith hn) k_Rd_failWith l_Rd_93 (by decide +kernel) (by omega) rfl rfl rfl rfl (Nat.le_of_ble_eq_true rfl) (by decide) ⟨by decide, by decide⟩ ?_
      rintro a9_ σ9 ⟨ea9, hσ9⟩
      subst ea9
      subst hσ9
      refine g_retI (by decide +kernel) rfl (Or.inr ⟨rfl, by omega⟩) ⟨by decide, by decide⟩ ?_
      show zRo _ _ _ _ _ _
      unfold zpK
      rw [← hI, ← hY, if_neg (by omega), if_pos (by omega)]
      exact hR.fault hG (by decide)
  · refine g_aload_n (i := 0) (by decide +kernel) rfl ?_
    refine g_cVI (st := _) (c_Rd_cannotStand hn (by omega)) k_Rd_cannotStand l_Rd_81 (by decide +kernel) (by omega) rfl rfl rfl rfl (Nat.le_of_ble_eq_true rfl) (by decide) ⟨by decide, by decide⟩ ?_
    rintro a9_ σ9 ⟨ea9, hσ9⟩
    subst ea9
    subst hσ9
    refine g_retI (by decide +kernel) rfl (Or.inr ⟨rfl, by omega⟩) ⟨by decide, by decide⟩ ?_
    show zRo _ _ _ _ _ _
    unfold zpK
    rw [if_pos (by omega), a3b]
    exact hR.fault hG zcs_r
theorem c_Rd_readClip {G : zG} {n : Nat} {σ σ0 : zSt} {b : Nat → Int} {n0 : Nat} {A : zAb} (hn : 189 ≤ n) (hb : zBt b) (hn0 : n0 ≤ 600) (hR : zRc b n0 σ0 A σ) (hA : zAi n0 A) (hm1 : A.mk = -1)  : Gm G y_Rd_readClip m_Rd_readClip 7 0 0 [vr G 179] n SH σ (zI n SH (fun a σ' => zRo b n0 σ0 (zpC b n0 A) a σ')) := by
  refine g_enter (L := [(0, _)]) (by decide) rfl rfl rfl (Nat.le_of_ble_eq_true rfl) (fun X => ?_)
  have hq := hA.1
  have hG := hA.2.1
  have nr := znx_r (b := b) hq
  obtain ⟨⟨a1, a2⟩, ⟨a3, a3b, a3c, a3d⟩, ⟨a4, a5, a6, a7, a8⟩, ⟨a9, a10⟩, a11, a12⟩ := id hR
  have tr := @zTt_r b n0 A.q
  have tb := zTb_r (b := b) hq
  have hB : zBt (σ 178) := by rw [a2]; exact hb
  have ob := hA.2.2.1
  have hD12 : A.D 0 0 ≤ 12 := hG.1.2.1
  have hD0 : 0 ≤ A.D 0 0 := hG.1.1
  have gd : zGood σ 11 := zGood_rows a11 hG
  have e0 : σ 11 0 = A.D 0 0 := by rw [show σ 11 = A.D 0 from a11 0 (by decide)]
  have e2 : σ 13 = A.D 2 := a11 2 (by decide)
  have dl := zdep_le (A.D 2) 12 A.op
  have pr : 0 ≤ (if A.op = -1 then 0 else (zcnt (fun j => decide (A.D 2 j = A.op)) (A.D 0 0).toNat : Int)) ∧ (if A.op = -1 then 0 else (zcnt (fun j => decide (A.D 2 j = A.op)) (A.D 0 0).toNat : Int)) ≤ 12 := by
    split
    · decide
    · exact zcnt_12 (by omega)
  refine g_aload_n (i := 0) (by decide +kernel) rfl ?_
  refine g_cVI (st := _) (c_Rd_wordNumber hn (by omega) (by omega) (by omega) (fun y => by have y1 := zTs_wr (b := b) (n0 := n0) (q := A.q) (by omega) (by omega); rw [a3d]; exact ⟨by omega, by omega⟩)) k_Rd_wordNumber l_Rd_96 (by decide +kernel) (by omega) rfl rfl rfl rfl (Nat.le_of_ble_eq_true rfl) (by decide) ⟨by decide, by decide⟩ ?_
  rintro a9_ σ9 ⟨ea9, hσ9⟩
  obtain rfl := hσ9.symm
  rw [a3, a3b, a3c, a3d] at ea9
  have ea9 : a9_ = zkw b n0 A.q := ea9
  have kr := @zkw_r b n0 A.q
  refine g_istore_n (i := 1) (L' := [(0, _), (1, _)]) (by decide +kernel) rfl rfl ?_
  refine g_iload_n (i := 1) (by decide +kernel) rfl ?_
  refine g_if_lt (off := 8) (tgt := 14) (by decide +kernel) (by decide) ⟨by omega, by omega⟩ (fun h6 => ?_) (fun h6 => ?_)
  · refine g_aload_n (i := 0) (by decide +kernel) rfl ?_
    refine g_cVI (st := _) (c_Rd_cannotStand hn (by omega)) k_Rd_cannotStand l_Rd_81 (by decide +kernel) (by omega) rfl rfl rfl rfl (Nat.le_of_ble_eq_true rfl) (by decide) ⟨by decide, by decide⟩ ?_
    rintro a9_ σ9 ⟨ea9, hσ9⟩
    subst ea9
    subst hσ9
    refine g_retI (by decide +kernel) rfl (Or.inr ⟨rfl, by omega⟩) ⟨by decide, by decide⟩ ?_
    show zRo _ _ _ _ _ _
    unfold zpC
    rw [if_pos (by omega), a3b]
    exact hR.fault hG zcs_r
  · refine g_iload_n (i := 1) (by decide +kernel) rfl ?_
    refine g_iconst (a := 2) (by decide +kernel) ?_
    refine g_icmp_le (off := 8) (tgt := 19) (by decide +kernel) (by decide) ⟨by omega, by omega⟩ ⟨by omega, by omega⟩ (fun h11 => ?_) (fun h11 => ?_)
    · refine g_aload_n (i := 0) (by decide +kernel) rfl ?_
      refine g_getr f_Rd_22 (by decide +kernel) (by omega) rfl rfl ?_
      refine g_geti f_Rd_100 (by decide +kernel) (by omega) rfl rfl ?_
      refine g_bipush (a := 12) (by decide +kernel) (by decide) ?_
      refine g_icmp_ge (off := 18) (tgt := 46) (by decide +kernel) (by decide) ⟨by omega, by omega⟩ ⟨by omega, by omega⟩ (fun h28 => ?_) (fun h28 => ?_)
      · refine g_aload_n (i := 0) (by decide +kernel) rfl ?_
        refine g_bipush (a := 6) (by decide +kernel) (by decide) ?_
        refine g_cVI (st := _) (c_Rd_failWith hn) k_Rd_failWith l_Rd_93 (by decide +kernel) (by omega) rfl rfl rfl rfl (Nat.le_of_ble_eq_true rfl) (by decide) ⟨by decide, by decide⟩ ?_
        rintro a9_ σ9 ⟨ea9, hσ9⟩
        subst ea9
        subst hσ9
        refine g_retI (by decide +kernel) rfl (Or.inr ⟨rfl, by omega⟩) ⟨by decide, by decide⟩ ?_
        show zRo _ _ _ _ _ _
        unfold zpC
        rw [if_neg (by omega), if_pos (by omega)]
        exact hR.fault hG (by decide)
      · refine g_aload_n (i := 0) (by decide +kernel) rfl ?_
        refine g_getr f_Rd_22 (by decide +kernel) (by omega) rfl rfl ?_
        refine g_aload_n (i := 0) (by decide +kernel) rfl ?_
        refine g_geti f_Rd_37 (by decide +kernel) (by omega) rfl rfl ?_
        rw [a4]
        refine g_cVI (st := _) (c_Sh_howManyAroundNew (b := 11) (x := A.op) hn sh_11 gd ⟨by omega, by omega⟩) k_Sh_howManyAroundNew l_Rd_103 (by decide +kernel) (by omega) rfl rfl rfl rfl (Nat.le_of_ble_eq_true rfl) (by decide) ⟨by decide, by decide⟩ ?_
        rintro a7_ σ7 ⟨ea7, hσ7⟩
        obtain rfl := hσ7.symm
        have ea7 : a7_ = (zdep (σ 13) 12 A.op : Int) := ea7
        rw [e2] at ea7
        refine g_iconst (a := 4) (by decide +kernel) ?_
        refine g_icmp_le (off := 10) (tgt := 53) (by decide +kernel) (by decide) ⟨by omega, by omega⟩ ⟨by omega, by omega⟩ (fun h43 => ?_) (fun h43 => ?_)
        · refine g_aload_n (i := 0) (by decide +kernel) rfl ?_
          refine g_getr f_Rd_22 (by decide +kernel) (by omega) rfl rfl ?_
          refine g_iload_n (i := 1) (by decide +kernel) rfl ?_
          refine g_aload_n (i := 0) (by decide +kernel) rfl ?_
          refine g_geti f_Rd_37 (by decide +kernel) (by omega) rfl rfl ?_
          rw [a4]
          refine g_cVI (st := _) (c_Sh_append (b := 11) (x := a9_) (y := A.op) hn sh_11 gd (by omega) ⟨by omega, by omega⟩) k_Sh_append l_Rd_107 (by decide +kernel) (by omega) rfl rfl rfl rfl (Nat.le_of_ble_eq_true rfl) (by decide) ⟨by decide, by decide⟩ ?_
          rintro a6_ υ ⟨ea6, hυ⟩
          have ep : (if A.op = -1 then 0 else (zcnt (fun j => decide (σ (11 + 2) j = A.op)) (σ 11 0).toNat : Int)) = (if A.op = -1 then 0 else (zcnt (fun j => decide (A.D 2 j = A.op)) (A.D 0 0).toNat : Int)) := by rw [e0, show σ (11 + 2) = A.D 2 from e2]
          rw [ep, ea9] at hυ
          have hU : zRc b n0 σ0 (zAm A.q (zApp A.D 0 (zkw b n0 A.q) A.op (if A.op = -1 then 0 else (zcnt (fun j => decide (A.D 2 j = A.op)) (A.D 0 0).toNat : Int))) A.nm A.sn A.td A.op A.mk) υ := by
            rw [hυ]
            exact hR.drf (fun a ha => zApp_oth ha) a11.app
          have er0 : (zApp A.D 0 (zkw b n0 A.q) A.op (if A.op = -1 then 0 else (zcnt (fun j => decide (A.D 2 j = A.op)) (A.D 0 0).toNat : Int))) 0 0 = A.D 0 0 + 1 := by rw [(zApp_r _ _ _ _).1, zu_eq]
          have ek6 : a6_ = (((A.D 0 0).toNat : Nat) : Int) := by omega
          subst ek6
          have hGa : zGood (zApp A.D 0 (zkw b n0 A.q) A.op (if A.op = -1 then 0 else (zcnt (fun j => decide (A.D 2 j = A.op)) (A.D 0 0).toNat : Int))) 0 := hG.app (by omega) ⟨by omega, by omega⟩ ⟨by omega, by omega⟩ pr
          refine g_istore_n (i := 2) (L' := [(0, _), (1, _), (2, _)]) (by decide +kernel) rfl rfl ?_
          refine g_aload_n (i := 0) (by decide +kernel) rfl ?_
          refine g_cVV (st := _) (c_Rd_takeToken (n0 := n0) (p := zTb b n0 (A.q)) hn (by rw [hU.1.2]; exact hb) hU.1.1 hn0 (zTb_r hq).2 hU.2.1.2.2.1) k_Rd_takeToken l_Rd_54 (by decide +kernel) (by omega) rfl rfl rfl rfl (Nat.le_of_ble_eq_true rfl) (by decide) ⟨by decide, by decide⟩ ?_
          rintro υ9 hk9
          have hF := hU.next hk9
          refine g_aload_n (i := 0) (by decide +kernel) rfl ?_
          refine g_iload_n (i := 2) (by decide +kernel) rfl ?_
          refine g_cVI (st := _) (c_Rd_readName (k := (A.D 0 0).toNat) hn hb hn0 hF nr.2 hGa (by show (zApp A.D 0 (zkw b n0 A.q) A.op (if A.op = -1 then 0 else (zcnt (fun j => decide (A.D 2 j = A.op)) (A.D 0 0).toNat : Int))) 0 0 = _; omega) (by show -1 ≤ A.op ∧ A.op < (zApp A.D 0 (zkw b n0 A.q) A.op (if A.op = -1 then 0 else (zcnt (fun j => decide (A.D 2 j = A.op)) (A.D 0 0).toNat : Int))) 0 0; omega) (fun i hi => hA.2.2.2.2.1 i hi)) k_Rd_readName l_Rd_111 (by decide +kernel) (by omega) rfl rfl rfl rfl (Nat.le_of_ble_eq_true rfl) (by decide) ⟨by decide, by decide⟩ ?_
          rintro a8 σ8 hres
          have ea8 := hres.b
          refine g_retI (by decide +kernel) rfl (Or.inr ⟨rfl, by omega⟩) ⟨by decide, by decide⟩ ?_
          show zRo _ _ _ _ _ _
          unfold zpC
          rw [if_neg (by omega), if_neg (by omega)]
          exact hres
        · refine g_aload_n (i := 0) (by decide +kernel) rfl ?_
          refine g_bipush (a := 6) (by decide +kernel) (by decide) ?_
          refine g_cVI (st := _) (c_Rd_failWith hn) k_Rd_failWith l_Rd_93 (by decide +kernel) (by omega) rfl rfl rfl rfl (Nat.le_of_ble_eq_true rfl) (by decide) ⟨by decide, by decide⟩ ?_
          rintro a9_ σ9 ⟨ea9, hσ9⟩
          subst ea9
          subst hσ9
          refine g_retI (by decide +kernel) rfl (Or.inr ⟨rfl, by omega⟩) ⟨by decide, by decide⟩ ?_
          show zRo _ _ _ _ _ _
          unfold zpC
          rw [if_neg (by omega), if_pos (by omega)]
          exact hR.fault hG (by decide)
    · refine g_aload_n (i := 0) (by decide +kernel) rfl ?_
      refine g_cVI (st := _) (c_Rd_cannotStand hn (by omega)) k_Rd_cannotStand l_Rd_81 (by decide +kernel) (by omega) rfl rfl rfl rfl (Nat.le_of_ble_eq_true rfl) (by decide) ⟨by decide, by decide⟩ ?_
      rintro a9_ σ9 ⟨ea9, hσ9⟩
      subst ea9
      subst hσ9
      refine g_retI (by decide +kernel) rfl (Or.inr ⟨rfl, by omega⟩) ⟨by decide, by decide⟩ ?_
      show zRo _ _ _ _ _ _
      unfold zpC
      rw [if_pos (by omega), a3b]
      exact hR.fault hG zcs_r
