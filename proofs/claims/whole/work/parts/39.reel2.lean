theorem zOn_eq {σ σ' : zSt} (h : ∀ a, a < 93 → σ' a = σ a) (ho : zOn σ) : zOn σ' := by
  obtain ⟨hg, hV, ⟨l1, l2, l3, l4⟩, hK, hs, hor, hF, hM, h7, hN⟩ := ho
  have E : zEqv (zSv σ 1) (zSv σ' 1) := zEqv.of (fun r hr => h (1 + r) (by omega))
  have V' := hV.eqv E
  obtain ⟨⟨d, r, hv⟩, hV2⟩ := hV
  have fil : ∀ p, p + 8 ≤ 93 → zFilled σ p → zFilled σ' p := fun p hp hq => by
    refine zKp_filled ⟨fun a ha => h a (by omega), by rw [h 33 (by decide)], h 43 (by decide), h 44 (by decide), fun r hr => h _ (by omega), fun i2 hi _ r r1 r2 => ?_⟩ hq
    have := hor.in hg i2 hi
    exact h _ (by omega)
  have mr : ∀ p, p + 8 ≤ 93 → zMr σ p → zMr σ' p := fun p hp hq => by
    have q : ∀ r, r < 8 → σ' (p + r) = σ (p + r) := fun r hr => h _ (by omega)
    unfold zMr at *
    rw [q 1 (by decide), q 2 (by decide), q 3 (by decide), q 4 (by decide), q 5 (by decide), q 6 (by decide), q 7 (by decide), show σ' p = σ p from q 0 (by decide)]
    exact hq
  refine ⟨zGood_eq (fun r hr => h _ (by omega)) hg, V', ⟨?_, ?_, ?_, ?_⟩, fun k hk => ?_, ?_, ?_, ?_, ⟨mr 34 (by decide) hM.1, fun j hj => mr _ (by omega) (hM.2 j hj)⟩, ?_, ?_⟩
  · rw [h 22 (by decide), h 23 (by decide)]; exact E.lay hv l1
  · intro k hk
    rw [h 1 (by decide)] at hk
    rw [h 23 (by decide), h 24 (by decide), h 25 (by decide), h 26 (by decide), E.be hv hk, E.bs hv 12 k hk, E.ok hv hk]
    exact l2 k hk
  · rw [h 26 (by decide)]; exact l3
  · rw [h 21 (by decide), h 1 (by decide), h 7 (by decide), h 23 (by decide)]; exact l4
  · rw [h 1 (by decide)] at hk
    exact zKk_eq (fun a ha => h a (by omega)) (hK k hk)
  · unfold zStood at *
    rw [h 33 (by decide), h 2 (by decide), h 1 (by decide), h 44 (by decide)]
    exact ⟨hs.1, E.stand hs.2⟩
  · unfold zOrd
    rw [h 1 (by decide), h 10 (by decide), h 43 (by decide)]; exact hor
  · rw [h 1 (by decide), h 10 (by decide), h 43 (by decide)]
    intro i hi
    have o := hor.in hg i hi
    have hq := hF i hi
    rw [h _ (by omega)]
    exact ⟨hq.1, fil _ (by omega) hq.2⟩
  · rw [h 33 (by decide), h 1 (by decide), h 10 (by decide), h 21 (by decide), h 43 (by decide)]; exact h7
  · rw [h 34 (by decide)]
    rcases hN with z | z
    · exact Or.inl z
    · exact Or.inr (fil 34 (by decide) z)
theorem zv_low {σ σ' : zSt} (h : ∀ a, a < 34 → σ' a = σ a) (ho : zOn σ) (t : Int) : zv (zSv σ' 1) t = zv (zSv σ 1) t := zv_eqv ho.2.1 (zEqv.of (fun r hr => h (1 + r) (by omega)))
noncomputable def zev (S : zSt) (w : Int) (k : Nat) : List zE4 := zev1 w k (zv S w 1 k) (zv S w 2 k) (zv S w 3 k) (decide (zv S (w - 1) 1 k = 2)) (zv S (w - 1) 3 k)
noncomputable def zevk (S : zSt) (w : Int) : Nat → List zE4
  | 0 => []
  | k + 1 => zevk S w k ++ zev S w k
noncomputable def zlog (S : zSt) (t : Int) : Nat → List zE4
  | 0 => []
  | i + 1 => zlog S t i ++ zevk S (t + (i : Int) + 1) (zN S)
theorem zevk_s (S : zSt) (w : Int) (k : Nat) : zevk S w (k + 1) = zevk S w k ++ zev S w k := rfl
theorem zlog_s (S : zSt) (t : Int) (i : Nat) : zlog S t (i + 1) = zlog S t i ++ zevk S (t + (i : Int) + 1) (zN S) := rfl
theorem zevk_len (S : zSt) (w : Int) : ∀ k, (zevk S w k).length ≤ k
  | 0 => Nat.le_refl 0
  | k + 1 => by
    have a := zevk_len S w k
    have b := zev1_len w k (zv S w 1 k) (zv S w 2 k) (zv S w 3 k) (decide (zv S (w - 1) 1 k = 2)) (zv S (w - 1) 3 k)
    rw [zevk_s, List.length_append]
    unfold zev; omega
theorem zlog_len (S : zSt) (t : Int) (h : zN S ≤ 12) : ∀ i, (zlog S t i).length ≤ 12 * i
  | 0 => Nat.le_refl 0
  | i + 1 => by
    have a := zlog_len S t h i
    have b := zevk_len S (t + (i : Int) + 1) (zN S)
    rw [zlog_s, List.length_append]
    omega
/-- what play leaves -/
def zGo (σ σ' : zSt) (c : Nat) : Prop := (∀ a, (a < 34 ∨ (42 ≤ a ∧ a < 182) ∨ 189 ≤ a) → σ' a = σ a) ∧ zStage σ' ∧ σ' 182 0 = σ 182 0 + c ∧ zRp σ' (zlog (zSv σ 1) (σ 182 0) c)
def zGi (σ τ : zSt) (t : Int) (i : Nat) : Prop := (∀ a, (a < 34 ∨ (42 ≤ a ∧ a < 182) ∨ 189 ≤ a) → τ a = σ a) ∧ zOn τ ∧ τ 182 0 = t + i ∧ zRp τ (zlog (zSv σ 1) t i) ∧ ∀ k, k < (σ 1 0).toNat → τ 187 k = (if zv (zSv σ 1) (t + i) 1 k = 2 then 1 else 0) ∧ τ 188 k = zv (zSv σ 1) (t + i) 3 k ∧ zr (τ 188 k)
theorem zOn.mr {σ : zSt} (h : zOn σ) : zMr σ 34 := h.2.2.2.2.2.2.2.1.1
theorem w2_Re_goOn {G : zG} {X : zX} {n : Nat} {σ τ1 : zSt} {w x3 x2 : Int} {L0 : List zE4} {post : zPost} (hn : 189 ≤ n) (ho : zOn σ) {N : Nat} (eN : σ 1 0 = (N : Int)) (hN : N ≤ 12) (lo : ∀ a, a < 34 → τ1 a = σ a) (o1 : zOn τ1) (l0 : L0.length ≤ 2500) (st : ∀ k, k < N → τ1 35 k = zv (zSv σ 1) w 1 k ∧ τ1 36 k = zv (zSv σ 1) w 2 k ∧ τ1 37 k = zv (zSv σ 1) w 3 k) (pr : ∀ k, k < N → τ1 187 k = (if zv (zSv σ 1) (w - 1) 1 k = 2 then 1 else 0) ∧ τ1 188 k = zv (zSv σ 1) (w - 1) 3 k ∧ zr (τ1 188 k)) (ew : τ1 182 0 = w) (kk : ∀ υ, zRf τ1 υ → zRp υ (L0 ++ zevk (zSv σ 1) w N) → Go G X m_Re_goOn (6, 0, 0, 0, 0) n SH υ 74 [(0, vr G 182), (1, vr G 33), (2, vi x2), (3, vi x3), (4, vr G 34)] [] post) : ∀ (m : Nat) (k : Nat) (x5 : Int) (υ : zSt), x5 = (k : Int) → zRf τ1 υ → zRp υ (L0 ++ zevk (zSv σ 1) w k) → k ≤ N → N < k + m → Go G X m_Re_goOn (6, 0, 0, 0, 0) n SH υ 51 [(0, vr G 182), (1, vr G 33), (2, vi x2), (3, vi x3), (4, vr G 34), (5, vi x5)] [] (post) := by
  intro m
  induction m with
  | zero => intro k x5 υ e5 hf hr hi hm; exact absurd hm (by omega)
  | succ m ih =>
    intro k x5 υ e5 hf hr hi hm
    subst e5
    have eN1 : υ 1 0 = (N : Int) := by rw [hf.1 1 (by decide), lo 1 (by decide)]; exact eN
    have ll := zevk_len (zSv σ 1) w k
    have u : ∀ a, a < 182 → υ a = τ1 a := fun a ha => hf.1 a (Or.inl ha)
    have u7 : υ 187 = τ1 187 := hf.1 187 (by decide)
    have u8 : υ 188 = τ1 188 := hf.1 188 (by decide)
    refine g_iload (i := 5) (by decide +kernel) rfl ?_
    refine g_aload_n (i := 1) (by decide +kernel) rfl ?_
    refine g_cVI (st := [vi (k : Int)]) (c_Sg_clips hn) k_Sg_clips l_Re_44 (by decide +kernel) (by omega) rfl rfl rfl rfl (Nat.le_of_ble_eq_true rfl) (by decide) ⟨by decide, by decide⟩ ?_
    rintro a σ1 ⟨ea, hσ⟩
    obtain rfl := hσ.symm
    have ea : a = (N : Int) := by rw [ea]; exact eN1
    subst ea
    refine g_icmp_ge (off := 17) (tgt := 74) (by decide +kernel) (by decide) ⟨by omega, by omega⟩ ⟨by omega, by omega⟩ (fun h57 => ?_) (fun h57 => ?_)
    · refine g_less [0, 1, 2, 3, 4] rfl (kk _ hf ?_)
      rw [show N = k by omega]; exact hr
    · have mr := o1.mr.2 k (by omega)
      have m1 : 0 ≤ τ1 35 k ∧ τ1 35 k ≤ 4 := mr.1
      have m3 : -1 ≤ τ1 37 k ∧ τ1 37 k ≤ 1000000000 := mr.2.2.1
      have p := pr k (by omega)
      have s := st k (by omega)
      refine g_aload_n (i := 0) (by decide +kernel) rfl ?_
      refine g_aload (i := 4) (by decide +kernel) rfl ?_
      refine g_iload (i := 5) (by decide +kernel) rfl ?_
      refine g_cVV (st := []) (c_Re_noteEvent (k := k) hn (by omega) hr (by rw [List.length_append]; omega) (by rw [u 35 (by decide)]; exact m1) (by rw [u7, p.1]; split; exact Or.inr rfl; exact Or.inl rfl) (by rw [u 37 (by decide)]; exact ⟨by omega, by omega⟩) (by rw [u8]; exact p.2.2)) k_Re_noteEvent l_Re_52 (by decide +kernel) (by omega) rfl rfl rfl rfl (Nat.le_of_ble_eq_true rfl) (by decide) ⟨by decide, by decide⟩ ?_
      rintro υ2 ⟨g1, g2⟩
      refine g_iinc (i := 5) (b := 1) (L' := [(0, _), (1, _), (2, _), (3, _), (4, _), (5, _)]) (by decide +kernel) rfl rfl rfl ?_
      refine g_goto (off := -20) (tgt := 51) (by decide +kernel) (by decide) ?_
      refine ih (k + 1) _ _ (by push_cast; rfl) (hf.tr g1) ?_ (by omega) (by omega)
      rw [zevk_s, ← List.append_assoc]
      rw [u 35 (by decide), u 36 (by decide), u 37 (by decide), u7, u8, hf.2, ew, s.1, s.2.1, s.2.2, p.2.1] at g2
      have e7 : decide (τ1 187 k = 1) = decide (zv (zSv σ 1) (w - 1) 1 k = 2) := by
        rw [p.1]
        by_cases z : zv (zSv σ 1) (w - 1) 1 k = 2
        · rw [if_pos z, decide_eq_true z]; rfl
        · rw [if_neg z, decide_eq_false z]; rfl
      rw [e7] at g2
      exact g2
theorem w_Re_goOn {G : zG} {X : zX} {n : Nat} {σ : zSt} {t : Int} {c : Nat} (hn : 189 ≤ n) (ho : zOn σ) {N : Nat} (eN : σ 1 0 = (N : Int)) (hN : N ≤ 12) (ht : 0 ≤ t ∧ t + c ≤ 1999) (hc : c ≤ 200) (e0 : σ 182 0 = t) : ∀ (m : Nat) (i : Nat) (x3 : Int) (τ : zSt), x3 = (i : Int) → zGi σ τ t i → i ≤ c → c < i + m → Go G X m_Re_goOn (6, 0, 0, 0, 0) n SH τ 23 [(0, vr G 182), (1, vr G 33), (2, vi (c : Int)), (3, vi x3)] [] (zV n SH (fun σ' => zGo σ σ' c)) := by
  intro m
  induction m with
  | zero => intro i x3 τ e3 hG hi hm; exact absurd hm (by omega)
  | succ m ih =>
    intro i x3 τ e3 hG hi hm
    subst e3
    obtain ⟨h1, h2, h3, h4, h5⟩ := id hG
    have NN : zN (zSv σ 1) = N := by show (σ 1 0).toNat = N; omega
    have N1 : (σ 1 0).toNat = N := by omega
    have ll := zlog_len (zSv σ 1) t (by omega) i
    refine g_iload_n (i := 3) (by decide +kernel) rfl ?_
    refine g_iload_n (i := 2) (by decide +kernel) rfl ?_
    refine g_icmp_ge (off := 65) (tgt := 90) (by decide +kernel) (by decide) ⟨by omega, by omega⟩ ⟨by omega, by omega⟩ (fun h25 => ?_) (fun h25 => ?_)
    · refine g_retV (by decide +kernel) rfl ⟨by decide, by decide⟩ ?_
      rw [show c = i by omega]
      exact ⟨h1, h2.2.2, by rw [e0]; exact h3, by rw [e0]; exact h4⟩
    · refine g_aload_n (i := 0) (by decide +kernel) rfl ?_
      refine g_dup (by decide +kernel) rfl ?_
      refine g_geti f_Re_31 (by decide +kernel) (by omega) rfl rfl ?_
      refine g_iconst (a := 1) (by decide +kernel) ?_
      refine g_iadd (by decide +kernel) ?_
      refine g_puti f_Re_31 (by decide +kernel) (by omega) rfl rfl ?_
      refine g_aload_n (i := 1) (by decide +kernel) rfl ?_
      refine g_aload_n (i := 0) (by decide +kernel) rfl ?_
      refine g_geti f_Re_31 (by decide +kernel) (by omega) rfl rfl ?_
      have oz : zOn (zs τ 182 0 (τ 182 0 + 1)) := zOn_eq (fun a ha => zs_other (by omega)) h2
      refine g_cVO (st := []) (c_Sg_at (t := zs τ 182 0 (τ 182 0 + 1) 182 0) hn oz (by rw [zs_eq]; omega)) k_Sg_at l_Re_38 (by decide +kernel) (by omega) rfl rfl rfl rfl (Nat.le_of_ble_eq_true rfl) (by decide) ⟨by decide, by decide⟩ ?_
      rintro q τ1 ⟨eq, hA⟩
      subst eq
      have lo : ∀ a, a < 34 → τ1 a = σ a := fun a ha => by rw [hA.1 a (Or.inl ha), zs_other (by omega)]; exact h1 a (Or.inl ha)
      have o1 : zOn τ1 := hA.on oz
      have ev : zv (zSv (zs τ 182 0 (τ 182 0 + 1)) 1) (zs τ 182 0 (τ 182 0 + 1) 182 0) = zv (zSv σ 1) (t + (i : Int) + 1) := by
        rw [zs_eq, h3]
        exact zv_low (fun a ha => by rw [zs_other (by omega)]; exact h1 a (Or.inl ha)) ho _
      have st : ∀ k, k < N → τ1 35 k = zv (zSv σ 1) (t + (i : Int) + 1) 1 k ∧ τ1 36 k = zv (zSv σ 1) (t + (i : Int) + 1) 2 k ∧ τ1 37 k = zv (zSv σ 1) (t + (i : Int) + 1) 3 k := fun k hk => by
        have e1 : (zs τ 182 0 (τ 182 0 + 1) 1 0).toNat = N := by rw [zs_other (by decide), h1 1 (by decide)]; exact N1
        have q := hA.2.2.1 k (by omega)
        rw [ev] at q
        exact ⟨q 1 (by decide) (by decide), q 2 (by decide) (by decide), q 3 (by decide) (by decide)⟩
      have pr : ∀ k, k < N → τ1 187 k = (if zv (zSv σ 1) (t + (i : Int) + 1 - 1) 1 k = 2 then 1 else 0) ∧ τ1 188 k = zv (zSv σ 1) (t + (i : Int) + 1 - 1) 3 k ∧ zr (τ1 188 k) := fun k hk => by
        rw [hA.1 187 (by decide), hA.1 188 (by decide), zs_other (by decide), zs_other (by decide), show t + (i : Int) + 1 - 1 = t + (i : Int) by omega]
        have q := h5 k (by omega)
        exact q
      refine g_astore (i := 4) (L' := [(0, _), (1, _), (2, _), (3, _), (4, _)]) (by decide +kernel) rfl rfl ?_
      refine g_iconst (a := 0) (by decide +kernel) ?_
      refine g_istore (i := 5) (L' := [(0, _), (1, _), (2, _), (3, _), (4, _), (5, _)]) (by decide +kernel) rfl rfl ?_
      refine w2_Re_goOn (L0 := zlog (zSv σ 1) t i) (w := t + (i : Int) + 1) hn ho eN hN lo o1 (by omega) st pr (by rw [hA.1 182 (by decide), zs_eq, h3]) (fun υ hf hr => ?_) 13 0 _ τ1 rfl (zRf.rf _) ?_ (by omega) (by omega)
      rotate_left
      · rw [show zevk (zSv σ 1) (t + (i : Int) + 1) 0 = [] from rfl, List.append_nil]
        refine ⟨?_, fun q h1 h2 => ?_⟩
        · rw [hA.1 182 (by decide), zs_row, zu_ne (by decide)]; exact h4.1
        · rw [hA.1 183 (by decide), hA.1 184 (by decide), hA.1 185 (by decide), hA.1 186 (by decide), zs_other (by decide), zs_other (by decide), zs_other (by decide), zs_other (by decide)]; exact h4.2 q h1 h2
      have oU : zOn υ := zOn_eq (fun a ha => hf.1 a (by omega)) o1
      have eU : υ 1 0 = (N : Int) := by rw [hf.1 1 (by decide), lo 1 (by decide)]; exact eN
      refine g_aload_n (i := 0) (by decide +kernel) rfl ?_
      refine g_aload (i := 4) (by decide +kernel) rfl ?_
      refine g_aload_n (i := 1) (by decide +kernel) rfl ?_
      refine g_cVI (st := [vr G 34, vr G 182]) (c_Sg_clips hn) k_Sg_clips l_Re_44 (by decide +kernel) (by omega) rfl rfl rfl rfl (Nat.le_of_ble_eq_true rfl) (by decide) ⟨by decide, by decide⟩ ?_
      rintro a σ1 ⟨ea, hσ⟩
      obtain rfl := hσ.symm
      have ea : a = (N : Int) := by rw [ea]; exact eU
      subst ea
      refine g_cVV (st := []) (c_Re_remember (N := N) hn hN (fun k hk => (oU.mr.2 k hk).1)) k_Re_remember l_Re_48 (by decide +kernel) (by omega) rfl rfl rfl rfl (Nat.le_of_ble_eq_true rfl) (by decide) ⟨by decide, by decide⟩ ?_
      rintro τ2 ⟨r1, r2⟩
      refine g_iinc (i := 3) (b := 1) (L' := [(0, _), (1, _), (2, _), (3, _), (4, _)]) (by decide +kernel) rfl rfl rfl ?_
      refine g_goto (off := -64) (tgt := 23) (by decide +kernel) (by decide) ?_
      refine g_less [0, 1, 2, 3] rfl (ih (i + 1) _ _ (by push_cast; rfl) ⟨fun a ha => ?_, zOn_eq (fun a ha => r1 a (by omega) (by omega)) oU, ?_, ?_, fun k hk => ?_⟩ (by omega) (by omega))
      · rw [r1 a (by omega) (by omega), hf.1 a (by omega), hA.1 a (by omega), zs_other (by omega)]; exact h1 a ha
      · rw [r1 182 (by decide) (by decide), hf.2, hA.1 182 (by decide), zs_eq, h3]; push_cast; omega
      · rw [zlog_s, NN]
        refine ⟨by rw [r1 182 (by decide) (by decide)]; exact hr.1, fun q h1 h2 => ?_⟩
        rw [r1 183 (by decide) (by decide), r1 184 (by decide) (by decide), r1 185 (by decide) (by decide), r1 186 (by decide) (by decide)]; exact hr.2 q h1 h2
      · have q := r2 k (by omega)
        have s := st k (by omega)
        have m3 : -1 ≤ τ1 37 k ∧ τ1 37 k ≤ 1000000000 := (o1.mr.2 k (by omega)).2.2.1
        have z3 : zr (τ1 37 k) := ⟨by omega, by omega⟩
        rw [q.1, q.2, hf.1 35 (by decide), hf.1 37 (by decide), show t + ((i + 1 : Nat) : Int) = t + (i : Int) + 1 by push_cast; omega]
        exact ⟨by rw [s.1], s.2.2, z3⟩
theorem c_Re_goOn {G : zG} {n : Nat} {σ : zSt} {c : Nat} (hn : 189 ≤ n) (ho : zOn σ) (ht : 0 ≤ σ 182 0 ∧ σ 182 0 + c ≤ 1999) (hc : c ≤ 200) : Gm G y_Re_goOn m_Re_goOn 6 0 0 [vr G 182, vr G 33, vi (c : Int)] n SH σ (zV n SH (fun σ' => zGo σ σ' c)) := by
  refine g_enter (L := [(0, _), (1, _), (2, _)]) (by decide) rfl rfl rfl (Nat.le_of_ble_eq_true rfl) (fun X => ?_)
  obtain ⟨N, eN⟩ := Int.eq_ofNat_of_zero_le ho.1.1.1
  have hN : N ≤ 12 := by have := ho.1.1.2.1; omega
  have N1 : (σ 1 0).toNat = N := by omega
  refine g_aload_n (i := 0) (by decide +kernel) rfl ?_
  refine g_iconst (a := 0) (by decide +kernel) ?_
  refine g_puti f_Re_35 (by decide +kernel) (by omega) rfl rfl ?_
  refine g_aload_n (i := 0) (by decide +kernel) rfl ?_
  refine g_aload_n (i := 1) (by decide +kernel) rfl ?_
  refine g_aload_n (i := 0) (by decide +kernel) rfl ?_
  refine g_geti f_Re_31 (by decide +kernel) (by omega) rfl rfl ?_
  have oz : zOn (zs σ 182 1 0) := zOn_eq (fun a ha => zs_other (by omega)) ho
  have e0 : zs σ 182 1 0 182 0 = σ 182 0 := by rw [zs_row, zu_ne (by decide)]
  refine g_cVO (st := [vr G 182]) (c_Sg_at (t := zs σ 182 1 0 182 0) hn oz (by rw [e0]; omega)) k_Sg_at l_Re_38 (by decide +kernel) (by omega) rfl rfl rfl rfl (Nat.le_of_ble_eq_true rfl) (by decide) ⟨by decide, by decide⟩ ?_
  rintro q τ1 ⟨eq, hA⟩
  subst eq
  have o1 : zOn τ1 := hA.on oz
  have eU : τ1 1 0 = (N : Int) := by rw [hA.1 1 (by decide), zs_other (by decide)]; exact eN
  have ev : zv (zSv (zs σ 182 1 0) 1) (zs σ 182 1 0 182 0) = zv (zSv σ 1) (σ 182 0) := by
    rw [e0]
    exact zv_low (fun a ha => zs_other (by omega)) ho _
  refine g_aload_n (i := 1) (by decide +kernel) rfl ?_
  refine g_cVI (st := [vr G 34, vr G 182]) (c_Sg_clips hn) k_Sg_clips l_Re_44 (by decide +kernel) (by omega) rfl rfl rfl rfl (Nat.le_of_ble_eq_true rfl) (by decide) ⟨by decide, by decide⟩ ?_
  rintro a σ1 ⟨ea, hσ⟩
  obtain rfl := hσ.symm
  have ea : a = (N : Int) := by rw [ea]; exact eU
  subst ea
  refine g_cVV (st := []) (c_Re_remember (N := N) hn hN (fun k hk => (o1.mr.2 k hk).1)) k_Re_remember l_Re_48 (by decide +kernel) (by omega) rfl rfl rfl rfl (Nat.le_of_ble_eq_true rfl) (by decide) ⟨by decide, by decide⟩ ?_
  rintro τ2 ⟨r1, r2⟩
  refine g_iconst (a := 0) (by decide +kernel) ?_
  refine g_istore_n (i := 3) (L' := [(0, _), (1, _), (2, _), (3, _)]) (by decide +kernel) rfl rfl ?_
  refine w_Re_goOn (t := σ 182 0) hn ho eN hN ht hc rfl (c + 1) 0 _ τ2 rfl ⟨fun a ha => ?_, zOn_eq (fun a ha => r1 a (by omega) (by omega)) o1, ?_, ?_, fun k hk => ?_⟩ (by omega) (by omega)
  · rw [r1 a (by omega) (by omega), hA.1 a (by omega), zs_other (by omega)]
  · rw [r1 182 (by decide) (by decide), hA.1 182 (by decide), e0]; omega
  · refine ⟨?_, fun q h1 h2 => absurd h2 (Nat.not_lt_zero q)⟩
    rw [r1 182 (by decide) (by decide), hA.1 182 (by decide), zs_eq]; rfl
  · have q := r2 k (by omega)
    have e1 : (zs σ 182 1 0 1 0).toNat = N := by rw [zs_other (by decide)]; exact N1
    have s := hA.2.2.1 k (by omega)
    rw [ev] at s
    have m3 : -1 ≤ τ1 37 k ∧ τ1 37 k ≤ 1000000000 := (o1.mr.2 k (by omega)).2.2.1
    have z3 : zr (zv (zSv σ 1) (σ 182 0) 3 k) := by rw [← s 3 (by decide) (by decide)]; exact ⟨by show _ ≤ τ1 37 k; omega, by show τ1 37 k ≤ _; omega⟩
    rw [q.1, q.2, show τ1 35 k = zv (zSv σ 1) (σ 182 0) 1 k from s 1 (by decide) (by decide), show τ1 37 k = zv (zSv σ 1) (σ 182 0) 3 k from s 3 (by decide) (by decide), show σ 182 0 + ((0 : Nat) : Int) = σ 182 0 by omega]
    exact ⟨rfl, rfl, z3⟩
