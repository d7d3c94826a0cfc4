/-! SPANS AND PIECES of the reference -/
theorem zMa_run {p x : Nat → Int} {f : Nat} (h : p f ≠ -1 ∧ zah p f = -1) : ∀ d, (∀ s, f ≤ s → s ≤ f + d → p s ≠ -1) → (zMa p 0 x (f + d + 1)).1 = (zcnt (fun s => decide (p s ≠ -1 ∧ zah p s = -1)) f : Int) + 1 ∧ (zMa p 0 x (f + d + 1)).2 2 = f ∧ (zMa p 0 x (f + d + 1)).2 3 = (f + d : Nat)
  | 0, _ => by
    rw [Nat.add_zero, zMa_s]
    unfold zMs
    have g : ¬ zgo p 0 f (zMa p 0 x f).2 = true := fun y => (of_decide_eq_true y).2.1 h.2
    rw [if_neg g, if_pos h.1]
    refine ⟨?_, ?_, ?_⟩
    · show (zMa p 0 x f).1 + 1 = _
      rw [zMa_sp]
    · dsimp only
      rw [zu_ne (by decide), zu_ne (by decide), zu_ne (by decide), zu_eq]
    · dsimp only
      rw [zu_ne (by decide), zu_ne (by decide), zu_eq, Nat.add_zero]
  | d + 1, hp => by
    obtain ⟨a1, a2, a3⟩ := zMa_run (x := x) h d (fun s h1 h2 => hp s h1 (by omega))
    rw [show f + (d + 1) + 1 = (f + d + 1) + 1 by omega, zMa_s]
    unfold zMs
    have g : zgo p 0 (f + d + 1) (zMa p 0 x (f + d + 1)).2 = true := decide_eq_true ⟨hp _ (by omega) (by omega), by rw [zah_s]; exact hp _ (by omega) (by omega), Or.inl rfl⟩
    rw [if_pos g, if_neg (fun y => y.1 rfl)]
    refine ⟨a1, ?_, ?_⟩
    · dsimp only
      rw [zu_ne (by decide)]; exact a2
    · dsimp only
      rw [zu_eq]; push_cast; omega
theorem zpc_sp {p : Nat → Int} {f l : Nat} {i : Int} (hi : 0 ≤ i) (h : p f ≠ -1 ∧ zah p f = -1) (hc : (zcnt (fun s => decide (p s ≠ -1 ∧ zah p s = -1)) f : Int) = i) (fl : f ≤ l) (hl : l < 2000) (hp : ∀ s, f ≤ s → s ≤ l → p s ≠ -1) (he : l + 1 = 2000 ∨ p (l + 1) = -1) : zpc p 0 i 2 = f ∧ zpc p 0 i 3 = l := by
  obtain ⟨a1, a2, a3⟩ := zMa_run (x := fun _ => 0) h (l - f) (fun s h1 h2 => hp s h1 (by omega))
  rw [show f + (l - f) = l by omega] at a1 a2 a3
  have z : zStp2 p 0 i (zMa p 0 (fun _ => 0) (l + 1)).2 := ⟨l + 1, fun _ => 0, by omega, Prod.ext (by rw [a1, hc]) rfl, by
    rcases he with he | he
    · exact Or.inl he
    · exact Or.inr (decide_eq_false (fun y => y.1 he))⟩
  exact ⟨by rw [← zpc_eq hi z 2 (by decide) (by decide)]; exact a2, by rw [← zpc_eq hi z 3 (by decide) (by decide)]; exact a3⟩
theorem w2_Md_span {G : zG} {X : zX} {n : Nat} {σ : zSt} {S υ : zSt} {k : Nat} {i w : Int} {x : Nat → Int} (hn : 220 ≤ n) (hM : zMz S) (hq : zTm υ S k 2000) (kN : k < zN S) (hk2 : 0 ≤ (k : Int) ∧ (k : Int) < S 0 0) (f1 : zMF σ υ) (s1 : υ 189 2 = 0) (hi0 : 0 ≤ i ∧ i ≤ 2147483647) (hw : 0 ≤ w ∧ w ≤ 2) {f : Nat} {x4 : Int} (hf2 : f < 2000) (hF : zplay S k f ≠ -1 ∧ zah (zplay S k) f = -1) (hc : (zcnt (fun s => decide (zplay S k s ≠ -1 ∧ zah (zplay S k) s = -1)) f : Int) = i)  : ∀ (m : Nat) (l : Nat) (x6 : Int), x6 = (l : Int) → f ≤ l → l < 2000 → (∀ s, f ≤ s → s ≤ l → zplay S k s ≠ -1) → 2000 < l + m + 1 → Go G X m_Md_span (19, 0, 0, 0, 0) n SH υ 120 [(0, vr G 189), (1, vi (k : Int)), (2, vi i), (3, vi w), (4, vi x4), (5, vi (f : Int)), (6, vi x6)] [] (zI n SH (fun a σ' => zRM σ σ' a (if i < 0 ∨ w < 0 ∨ 2 < w then 1 else if ¬ (0 ≤ (k : Int) ∧ (k : Int) < S 0 0) then 2 else if (zMa (zplay S k) 0 x 2000).1 ≤ i then 8 else 0) (if w = 0 then zpc (zplay S k) 0 i 2 else if w = 1 then zpc (zplay S k) 0 i 3 else (zunp (zplay S k) (zpc (zplay S k) 0 i 2).toNat (zpc (zplay S k) 0 i 3).toNat : Int)))) := by
  intro m
  induction m with
  | zero => intro l x6 e6 fl l2 hp hm; exact absurd hm (by omega)
  | succ m ih =>
    intro l x6 e6 fl l2 hp hm
    subst e6
    have J146 : (l + 1 = 2000 ∨ zplay S k (l + 1) = -1) → Go G X m_Md_span (19, 0, 0, 0, 0) n SH υ 146 [(0, vr G 189), (1, vi (k : Int)), (2, vi i), (3, vi w), (4, vi x4), (5, vi (f : Int)), (6, vi (l : Int))] [] (zI n SH (fun a σ' => zRM σ σ' a (if i < 0 ∨ w < 0 ∨ 2 < w then 1 else if ¬ (0 ≤ (k : Int) ∧ (k : Int) < S 0 0) then 2 else if (zMa (zplay S k) 0 x 2000).1 ≤ i then 8 else 0) (if w = 0 then zpc (zplay S k) 0 i 2 else if w = 1 then zpc (zplay S k) 0 i 3 else (zunp (zplay S k) (zpc (zplay S k) 0 i 2).toNat (zpc (zplay S k) 0 i 3).toNat : Int)))) := by
      intro he
      obtain ⟨c2, c3⟩ := zpc_sp hi0.1 hF hc fl l2 hp he
      have mx := zMa_sp (zplay S k) x 2000
      have lt := zcnt_lt (p := (fun s => decide (zplay S k s ≠ -1 ∧ zah (zplay S k) s = -1))) (q := f) (i := 2000) hf2 (decide_eq_true hF)
      have st0 : (if i < 0 ∨ w < 0 ∨ 2 < w then 1 else if ¬ (0 ≤ (k : Int) ∧ (k : Int) < S 0 0) then 2 else if (zMa (zplay S k) 0 x 2000).1 ≤ i then 8 else 0) = (0 : Int) := by rw [if_neg (by omega), if_neg (by omega), if_neg (by omega)]
      refine g_iload_n (i := 3) (by decide +kernel) rfl ?_
      refine g_if_ne (off := 8) (tgt := 155) (by decide +kernel) (by decide) ⟨by omega, by omega⟩ (fun h147 => ?_) (fun h147 => ?_)
      · refine g_iload_n (i := 3) (by decide +kernel) rfl ?_
        refine g_iconst (a := 1) (by decide +kernel) ?_
        refine g_icmp_ne (off := 8) (tgt := 165) (by decide +kernel) (by decide) ⟨by omega, by omega⟩ ⟨by omega, by omega⟩ (fun h157 => ?_) (fun h157 => ?_)
        · refine g_aload_n (i := 0) (by decide +kernel) rfl ?_
          refine g_iload (i := 5) (by decide +kernel) rfl ?_
          refine g_iload (i := 6) (by decide +kernel) rfl ?_
          refine g_cVI (st := _) (c_Md_unlike (f := f) (l := l) hn hM hq kN (by omega) (by omega)) k_Md_unlike l_Md_452 (by decide +kernel) (by omega) rfl rfl rfl rfl (Nat.le_of_ble_eq_true rfl) (by decide) ⟨by decide, by decide⟩ ?_
          rintro a9 σ9 ⟨ea9, hσ9⟩
          obtain rfl := hσ9.symm
          refine g_retI (by decide +kernel) rfl (Or.inl rfl) ⟨by decide, by decide⟩ ?_
          refine zRM.ok f1 st0 s1 ?_
          first
            | (have hz : w = 0 := h147
               rw [if_pos hz, c2])
            | (have hz : w = 1 := h157
               rw [if_neg (by omega), if_pos hz, c3])
            | (rw [if_neg (by omega), if_neg (by omega), c2, c3, Int.toNat_natCast, Int.toNat_natCast]; exact ea9)
        · refine g_iload (i := 6) (by decide +kernel) rfl ?_
          refine g_goto (off := 11) (tgt := 173) (by decide +kernel) (by decide) ?_
          refine g_retI (by decide +kernel) rfl (Or.inl rfl) ⟨by decide, by decide⟩ ?_
          refine zRM.ok f1 st0 s1 ?_
          first
            | (have hz : w = 0 := h147
               rw [if_pos hz, c2])
            | (have hz : w = 1 := h157
               rw [if_neg (by omega), if_pos hz, c3])
            | (rw [if_neg (by omega), if_neg (by omega), c2, c3, Int.toNat_natCast, Int.toNat_natCast]; exact ea9)
      · refine g_iload (i := 5) (by decide +kernel) rfl ?_
        refine g_goto (off := 21) (tgt := 173) (by decide +kernel) (by decide) ?_
        refine g_retI (by decide +kernel) rfl (Or.inl rfl) ⟨by decide, by decide⟩ ?_
        refine zRM.ok f1 st0 s1 ?_
        first
          | (have hz : w = 0 := h147
             rw [if_pos hz, c2])
          | (have hz : w = 1 := h157
             rw [if_neg (by omega), if_pos hz, c3])
          | (rw [if_neg (by omega), if_neg (by omega), c2, c3, Int.toNat_natCast, Int.toNat_natCast]; exact ea9)
    refine g_iload (i := 6) (by decide +kernel) rfl ?_
    refine g_sipush (a := 1999) (by decide +kernel) (by decide) ?_
    refine g_icmp_ge (off := 21) (tgt := 146) (by decide +kernel) (by decide) ⟨by omega, by omega⟩ ⟨by omega, by omega⟩ (fun h125 => ?_) (fun h125 => ?_)
    · exact J146 (by omega)
    · have q1 := hq.p hM kN (show l + 1 < 2000 by omega)
      refine g_aload_n (i := 0) (by decide +kernel) rfl ?_
      refine g_getr f_Md_124 (by decide +kernel) (by omega) rfl rfl ?_
      refine g_iload (i := 6) (by decide +kernel) rfl ?_
      refine g_iconst (a := 1) (by decide +kernel) ?_
      refine g_iadd (by decide +kernel) ?_
      refine g_zald (j := (l + 1)) (by decide +kernel) (by omega) rfl (by push_cast; rfl) (by omega) (by decide) ?_
      refine g_if_eq (off := 9) (tgt := 146) (by decide +kernel) (by decide) ⟨by omega, by omega⟩ (fun h137 => ?_) (fun h137 => ?_)
      · exact J146 (by omega)
      · refine g_iinc (i := 6) (b := 1) (L' := [(0, _), (1, _), (2, _), (3, _), (4, _), (5, _), (6, _)]) (by decide +kernel) rfl rfl rfl ?_
        refine g_goto (off := -23) (tgt := 120) (by decide +kernel) (by decide) ?_
        refine ih (l + 1) _ (by push_cast; rfl) (by omega) (by omega) (fun s h1 h2 => ?_) (by omega)
        by_cases z : s = l + 1
        · rw [z]; omega
        · exact hp s h1 (by omega)
theorem w_Md_span {G : zG} {X : zX} {n : Nat} {σ : zSt} {S υ : zSt} {k : Nat} {i w : Int} {x : Nat → Int} (hn : 220 ≤ n) (hM : zMz S) (hq : zTm υ S k 2000) (kN : k < zN S) (hk2 : 0 ≤ (k : Int) ∧ (k : Int) < S 0 0) (f1 : zMF σ υ) (s1 : υ 189 2 = 0) (hi0 : 0 ≤ i ∧ i ≤ 2147483647) (hw : 0 ≤ w ∧ w ≤ 2)  : ∀ (m : Nat) (f : Nat) (x4 x5 : Int), x5 = (f : Int) → x4 = i - (zcnt (fun s => decide (zplay S k s ≠ -1 ∧ zah (zplay S k) s = -1)) f : Int) → 0 ≤ x4 → f ≤ 2000 → 2000 < f + m → Go G X m_Md_span (19, 0, 0, 0, 0) n SH υ 54 [(0, vr G 189), (1, vi (k : Int)), (2, vi i), (3, vi w), (4, vi x4), (5, vi x5)] [] (zI n SH (fun a σ' => zRM σ σ' a (if i < 0 ∨ w < 0 ∨ 2 < w then 1 else if ¬ (0 ≤ (k : Int) ∧ (k : Int) < S 0 0) then 2 else if (zMa (zplay S k) 0 x 2000).1 ≤ i then 8 else 0) (if w = 0 then zpc (zplay S k) 0 i 2 else if w = 1 then zpc (zplay S k) 0 i 3 else (zunp (zplay S k) (zpc (zplay S k) 0 i 2).toNat (zpc (zplay S k) 0 i 3).toNat : Int)))) := by
  intro m
  induction m with
  | zero => intro f x4 x5 e5 e4 h4 hi hm; exact absurd hm (by omega)
  | succ m ih =>
    intro f x4 x5 e5 e4 h4 hi hm
    subst e5
    have zl := zcnt_le (fun s => decide (zplay S k s ≠ -1 ∧ zah (zplay S k) s = -1)) f
    refine g_iload (i := 5) (by decide +kernel) rfl ?_
    refine g_sipush (a := 1999) (by decide +kernel) (by decide) ?_
    refine g_icmp_gt (off := 42) (tgt := 101) (by decide +kernel) (by decide) ⟨by omega, by omega⟩ ⟨by omega, by omega⟩ (fun h59 => ?_) (fun h59 => ?_)
    · have J101 : f = 2000 ∨ (f < 2000 ∧ (zplay S k f ≠ -1 ∧ zah (zplay S k) f = -1) ∧ x4 = 0) := by
        first
          | exact Or.inl (by omega)
          | exact Or.inr ⟨by omega, h68, by omega⟩
      refine g_iload (i := 5) (by decide +kernel) rfl ?_
      refine g_sipush (a := 1999) (by decide +kernel) (by decide) ?_
      refine g_icmp_le (off := 10) (tgt := 116) (by decide +kernel) (by decide) ⟨by omega, by omega⟩ ⟨by omega, by omega⟩ (fun h106 => ?_) (fun h106 => ?_)
      · refine g_iload (i := 5) (by decide +kernel) rfl ?_
        refine g_istore (i := 6) (L' := [(0, _), (1, _), (2, _), (3, _), (4, _), (5, _), (6, _)]) (by decide +kernel) rfl rfl ?_
        rcases J101 with z | ⟨z1, z2, z3⟩
        · exfalso; omega
        · exact w2_Md_span hn hM hq kN hk2 f1 s1 hi0 hw z1 z2 (by omega) 2000 f _ rfl (Nat.le_refl _) z1 (fun s h1 h2 => by rw [show s = f by omega]; exact z2.1) (by omega)
      · refine g_aload_n (i := 0) (by decide +kernel) rfl ?_
        refine g_bipush (a := 8) (by decide +kernel) (by decide) ?_
        refine g_cVI (st := _) (c_Md_refuse hn) k_Md_refuse l_Md_295 (by decide +kernel) (by omega) rfl rfl rfl rfl (Nat.le_of_ble_eq_true rfl) (by decide) ⟨by decide, by decide⟩ ?_
        rintro a9 σ9 ⟨ea9, hσ9⟩
        obtain rfl := ea9.symm
        subst hσ9
        refine g_retI (by decide +kernel) rfl (Or.inl rfl) ⟨by decide, by decide⟩ ?_
        have mx := zMa_sp (zplay S k) x 2000
        have z : f = 2000 := by omega
        subst z
        exact zRM.ref f1 (by rw [if_neg (by omega), if_neg (by omega), if_pos (by omega)]) (by decide)
    · refine g_aload_n (i := 0) (by decide +kernel) rfl ?_
      refine g_iload (i := 5) (by decide +kernel) rfl ?_
      refine g_cVI (st := _) (c_Md_isFirst (t := f) hn hM hq kN (by omega)) k_Md_isFirst l_Md_449 (by decide +kernel) (by omega) rfl rfl rfl rfl (Nat.le_of_ble_eq_true rfl) (by decide) ⟨by decide, by decide⟩ ?_
      rintro a9 σ9 ⟨ea9, hσ9⟩
      obtain rfl := hσ9.symm
      subst ea9
      refine g_if_eq (off := 8) (tgt := 76) (by decide +kernel) (by decide) zbr (fun h68 => ?_) (fun h68 => ?_)
      · have h68 := zb0.mp h68
        refine g_iload (i := 4) (by decide +kernel) rfl ?_
        refine g_aload_n (i := 0) (by decide +kernel) rfl ?_
        refine g_iload (i := 5) (by decide +kernel) rfl ?_
        refine g_cVI (st := _) (c_Md_isFirst (t := f) hn hM hq kN (by omega)) k_Md_isFirst l_Md_449 (by decide +kernel) (by omega) rfl rfl rfl rfl (Nat.le_of_ble_eq_true rfl) (by decide) ⟨by decide, by decide⟩ ?_
        rintro a9 σ9 ⟨ea9, hσ9⟩
        obtain rfl := hσ9.symm
        subst ea9
        refine g_if_eq (off := 7) (tgt := 91) (by decide +kernel) (by decide) zbr (fun h84 => ?_) (fun h84 => ?_)
        · have h84 := zb0.mp h84
          refine g_iconst (a := 0) (by decide +kernel) ?_
          refine g_isub (by decide +kernel) ?_
          refine g_istore (i := 4) (L' := [(0, _), (1, _), (2, _), (3, _), (4, _), (5, _)]) (by decide +kernel) rfl rfl ?_
          refine g_iinc (i := 5) (b := 1) (L' := [(0, _), (1, _), (2, _), (3, _), (4, _), (5, _)]) (by decide +kernel) rfl rfl rfl ?_
          refine g_goto (off := -44) (tgt := 54) (by decide +kernel) (by decide) ?_
          first
            | (have z : ¬ (zplay S k f ≠ -1 ∧ zah (zplay S k) f = -1) := h84
               exact ih (f + 1) _ _ (by push_cast; rfl) (by rw [zcnt_f (decide_eq_false z)]; omega) (by omega) (by omega) (by omega))
            | (have z : zplay S k f ≠ -1 ∧ zah (zplay S k) f = -1 := h84
               exact ih (f + 1) _ _ (by push_cast; rfl) (by rw [zcnt_t (decide_eq_true z)]; push_cast; omega) (by omega) (by omega) (by omega))
        · have h84 := zb1.mp h84
          refine g_iconst (a := 1) (by decide +kernel) ?_
          refine g_goto (off := 4) (tgt := 92) (by decide +kernel) (by decide) ?_
          refine g_isub (by decide +kernel) ?_
          refine g_istore (i := 4) (L' := [(0, _), (1, _), (2, _), (3, _), (4, _), (5, _)]) (by decide +kernel) rfl rfl ?_
          refine g_iinc (i := 5) (b := 1) (L' := [(0, _), (1, _), (2, _), (3, _), (4, _), (5, _)]) (by decide +kernel) rfl rfl rfl ?_
          refine g_goto (off := -44) (tgt := 54) (by decide +kernel) (by decide) ?_
          first
            | (have z : ¬ (zplay S k f ≠ -1 ∧ zah (zplay S k) f = -1) := h84
               exact ih (f + 1) _ _ (by push_cast; rfl) (by rw [zcnt_f (decide_eq_false z)]; omega) (by omega) (by omega) (by omega))
            | (have z : zplay S k f ≠ -1 ∧ zah (zplay S k) f = -1 := h84
               exact ih (f + 1) _ _ (by push_cast; rfl) (by rw [zcnt_t (decide_eq_true z)]; push_cast; omega) (by omega) (by omega) (by omega))
      · have h68 := zb1.mp h68
        refine g_iload (i := 4) (by decide +kernel) rfl ?_
        refine g_if_le (off := 28) (tgt := 101) (by decide +kernel) (by decide) ⟨by omega, by omega⟩ (fun h73 => ?_) (fun h73 => ?_)
        · have J101 : f = 2000 ∨ (f < 2000 ∧ (zplay S k f ≠ -1 ∧ zah (zplay S k) f = -1) ∧ x4 = 0) := by
            first
              | exact Or.inl (by omega)
              | exact Or.inr ⟨by omega, h68, by omega⟩
          refine g_iload (i := 5) (by decide +kernel) rfl ?_
          refine g_sipush (a := 1999) (by decide +kernel) (by decide) ?_
          refine g_icmp_le (off := 10) (tgt := 116) (by decide +kernel) (by decide) ⟨by omega, by omega⟩ ⟨by omega, by omega⟩ (fun h106 => ?_) (fun h106 => ?_)
          · refine g_iload (i := 5) (by decide +kernel) rfl ?_
            refine g_istore (i := 6) (L' := [(0, _), (1, _), (2, _), (3, _), (4, _), (5, _), (6, _)]) (by decide +kernel) rfl rfl ?_
            rcases J101 with z | ⟨z1, z2, z3⟩
            · exfalso; omega
            · exact w2_Md_span hn hM hq kN hk2 f1 s1 hi0 hw z1 z2 (by omega) 2000 f _ rfl (Nat.le_refl _) z1 (fun s h1 h2 => by rw [show s = f by omega]; exact z2.1) (by omega)
          · refine g_aload_n (i := 0) (by decide +kernel) rfl ?_
            refine g_bipush (a := 8) (by decide +kernel) (by decide) ?_
            refine g_cVI (st := _) (c_Md_refuse hn) k_Md_refuse l_Md_295 (by decide +kernel) (by omega) rfl rfl rfl rfl (Nat.le_of_ble_eq_true rfl) (by decide) ⟨by decide, by decide⟩ ?_
            rintro a9 σ9 ⟨ea9, hσ9⟩
            obtain rfl := ea9.symm
            subst hσ9
            refine g_retI (by decide +kernel) rfl (Or.inl rfl) ⟨by decide, by decide⟩ ?_
            have mx := zMa_sp (zplay S k) x 2000
            have z : f = 2000 := by omega
            subst z
            exact zRM.ref f1 (by rw [if_neg (by omega), if_neg (by omega), if_pos (by omega)]) (by decide)
        · refine g_iload (i := 4) (by decide +kernel) rfl ?_
          refine g_aload_n (i := 0) (by decide +kernel) rfl ?_
          refine g_iload (i := 5) (by decide +kernel) rfl ?_
          refine g_cVI (st := _) (c_Md_isFirst (t := f) hn hM hq kN (by omega)) k_Md_isFirst l_Md_449 (by decide +kernel) (by omega) rfl rfl rfl rfl (Nat.le_of_ble_eq_true rfl) (by decide) ⟨by decide, by decide⟩ ?_
          rintro a9 σ9 ⟨ea9, hσ9⟩
          obtain rfl := hσ9.symm
          subst ea9
          refine g_if_eq (off := 7) (tgt := 91) (by decide +kernel) (by decide) zbr (fun h84 => ?_) (fun h84 => ?_)
          · have h84 := zb0.mp h84
            refine g_iconst (a := 0) (by decide +kernel) ?_
            refine g_isub (by decide +kernel) ?_
            refine g_istore (i := 4) (L' := [(0, _), (1, _), (2, _), (3, _), (4, _), (5, _)]) (by decide +kernel) rfl rfl ?_
            refine g_iinc (i := 5) (b := 1) (L' := [(0, _), (1, _), (2, _), (3, _), (4, _), (5, _)]) (by decide +kernel) rfl rfl rfl ?_
            refine g_goto (off := -44) (tgt := 54) (by decide +kernel) (by decide) ?_
            first
              | (have z : ¬ (zplay S k f ≠ -1 ∧ zah (zplay S k) f = -1) := h84
                 exact ih (f + 1) _ _ (by push_cast; rfl) (by rw [zcnt_f (decide_eq_false z)]; omega) (by omega) (by omega) (by omega))
              | (have z : zplay S k f ≠ -1 ∧ zah (zplay S k) f = -1 := h84
                 exact ih (f + 1) _ _ (by push_cast; rfl) (by rw [zcnt_t (decide_eq_true z)]; push_cast; omega) (by omega) (by omega) (by omega))
          · have h84 := zb1.mp h84
            refine g_iconst (a := 1) (by decide +kernel) ?_
            refine g_goto (off := 4) (tgt := 92) (by decide +kernel) (by decide) ?_
            refine g_isub (by decide +kernel) ?_
            refine g_istore (i := 4) (L' := [(0, _), (1, _), (2, _), (3, _), (4, _), (5, _)]) (by decide +kernel) rfl rfl ?_
            refine g_iinc (i := 5) (b := 1) (L' := [(0, _), (1, _), (2, _), (3, _), (4, _), (5, _)]) (by decide +kernel) rfl rfl rfl ?_
            refine g_goto (off := -44) (tgt := 54) (by decide +kernel) (by decide) ?_
            first
              | (have z : ¬ (zplay S k f ≠ -1 ∧ zah (zplay S k) f = -1) := h84
                 exact ih (f + 1) _ _ (by push_cast; rfl) (by rw [zcnt_f (decide_eq_false z)]; omega) (by omega) (by omega) (by omega))
              | (have z : zplay S k f ≠ -1 ∧ zah (zplay S k) f = -1 := h84
                 exact ih (f + 1) _ _ (by push_cast; rfl) (by rw [zcnt_t (decide_eq_true z)]; push_cast; omega) (by omega) (by omega) (by omega))
theorem c_Md_span {G : zG} {n : Nat} {σ : zSt} {S : zSt} (hn : 220 ≤ n) (hM : zMz S) (hS : zMc σ S) {c i w : Int} {x : Nat → Int} (z1 : zr c) (z2 : zr i) (z3 : zr w) : Gm G y_Md_span m_Md_span 19 0 0 [vr G 189, vi c, vi i, vi w] n SH σ (zI n SH (fun a σ' => zRM σ σ' a (if i < 0 ∨ w < 0 ∨ 2 < w then 1 else if ¬ (0 ≤ c ∧ c < S 0 0) then 2 else if (zMa (zplay S c.toNat) 0 x 2000).1 ≤ i then 8 else 0) (if w = 0 then zpc (zplay S c.toNat) 0 i 2 else if w = 1 then zpc (zplay S c.toNat) 0 i 3 else (zunp (zplay S c.toNat) (zpc (zplay S c.toNat) 0 i 2).toNat (zpc (zplay S c.toNat) 0 i 3).toNat : Int)))) := by
  refine g_enter (L := [(0, _), (1, _), (2, _), (3, _)]) (by decide) rfl rfl rfl (Nat.le_of_ble_eq_true rfl) (fun X => ?_)
  have e0 := hS.n
  have e8 := hS.p
  have hN := hS.N
  have hz : zN S = (S 0 0).toNat := rfl
  obtain ⟨z1a, z1b⟩ := id z1
  obtain ⟨z2a, z2b⟩ := id z2
  obtain ⟨z3a, z3b⟩ := id z3
  refine g_aload_n (i := 0) (by decide +kernel) rfl ?_
  refine g_iconst (a := 0) (by decide +kernel) ?_
  refine g_puti f_Md_142 (by decide +kernel) (by omega) rfl rfl ?_
  refine g_aload_n (i := 0) (by decide +kernel) rfl ?_
  refine g_iconst (a := 0) (by decide +kernel) ?_
  refine g_puti f_Md_145 (by decide +kernel) (by omega) rfl rfl ?_
  obtain ⟨τ, eτ⟩ : ∃ τ, τ = zs (zs σ 189 3 0) 189 2 0 := ⟨_, rfl⟩
  rw [← eτ]
  have f0 : zMF σ τ := by rw [eτ]; exact ((zMF.rf σ).put (by decide)).put (by decide)
  have s0 : τ 189 2 = 0 := by rw [eτ, zs_eq]
  have hT : zMc τ S := hS.moved (f0.1 190 (by decide))
  have et := hT.n
  have ep := hT.p
  refine g_iload_n (i := 2) (by decide +kernel) rfl ?_
  refine g_if_lt (off := 12) (tgt := 23) (by decide +kernel) (by decide) ⟨by omega, by omega⟩ (fun h11 => ?_) (fun h11 => ?_)
  · refine g_aload_n (i := 0) (by decide +kernel) rfl ?_
    refine g_iconst (a := 1) (by decide +kernel) ?_
    refine g_cVI (st := _) (c_Md_refuse hn) k_Md_refuse l_Md_295 (by decide +kernel) (by omega) rfl rfl rfl rfl (Nat.le_of_ble_eq_true rfl) (by decide) ⟨by decide, by decide⟩ ?_
    rintro a9 σ9 ⟨ea9, hσ9⟩
    obtain rfl := ea9.symm
    subst hσ9
    refine g_retI (by decide +kernel) rfl (Or.inl rfl) ⟨by decide, by decide⟩ ?_
    exact zRM.ref f0 (by rw [if_pos (by omega)]) (by decide)
  · refine g_iload_n (i := 3) (by decide +kernel) rfl ?_
    refine g_iconst (a := 0) (by decide +kernel) ?_
    refine g_iconst (a := 2) (by decide +kernel) ?_
    refine g_cSI (st := _) (c_Md_isIn ⟨by omega, by omega⟩ ⟨by omega, by omega⟩ ⟨by omega, by omega⟩) k_Md_isIn l_Md_152 (by decide +kernel) rfl rfl (Nat.le_of_ble_eq_true rfl) (by decide) ⟨by decide, by decide⟩ ?_
    rintro a9 σ9 ⟨ea9, hσ9⟩
    obtain rfl := hσ9.symm
    subst ea9
    refine g_if_ne (off := 9) (tgt := 29) (by decide +kernel) (by decide) zbr (fun h20 => ?_) (fun h20 => ?_)
    · have h20 := zb1.mp h20
      refine g_aload_n (i := 0) (by decide +kernel) rfl ?_
      refine g_iload_n (i := 1) (by decide +kernel) rfl ?_
      refine g_cVI (st := _) (c_Md_isClip (k := c) hn (by assumption) (by rw [hT.n]; omega)) k_Md_isClip l_Md_313 (by decide +kernel) (by omega) rfl rfl rfl rfl (Nat.le_of_ble_eq_true rfl) (by decide) ⟨by decide, by decide⟩ ?_
      rintro a9 σ9 ⟨ea9, hσ9⟩
      obtain rfl := hσ9.symm
      rw [hT.n] at ea9
      subst ea9
      refine g_if_ne (off := 9) (tgt := 43) (by decide +kernel) (by decide) zbr (fun h34 => ?_) (fun h34 => ?_)
      · have h34 := zb1.mp h34
        obtain ⟨k, rfl⟩ := Int.eq_ofNat_of_zero_le h34.1
        have kN : k < zN S := by omega
        refine g_aload_n (i := 0) (by decide +kernel) rfl ?_
        refine g_iload_n (i := 1) (by decide +kernel) rfl ?_
        refine g_cVV (st := _) (c_Md_laysTimes (k := k) hn hM hT kN) k_Md_laysTimes l_Md_436 (by decide +kernel) (by omega) rfl rfl rfl rfl (Nat.le_of_ble_eq_true rfl) (by decide) ⟨by decide, by decide⟩ ?_
        rintro υ ⟨hf, hP, hq⟩
        have f1 := f0.of (fun a ha => hf a (by omega))
        have s1 : υ 189 2 = 0 := by rw [hf 189 (by omega)]; exact s0
        refine g_iload_n (i := 2) (by decide +kernel) rfl ?_
        refine g_istore (i := 4) (L' := [(0, _), (1, _), (2, _), (3, _), (4, _)]) (by decide +kernel) rfl rfl ?_
        refine g_iconst (a := 0) (by decide +kernel) ?_
        refine g_istore (i := 5) (L' := [(0, _), (1, _), (2, _), (3, _), (4, _), (5, _)]) (by decide +kernel) rfl rfl ?_
        have e9 : ((k : Int)).toNat = k := Int.toNat_natCast k
        rw [e9]
        exact w_Md_span hn hM hq kN h34 f1 s1 (by omega) (by omega) 2001 0 _ _ rfl (by show i = i - ((0 : Nat) : Int); omega) (by omega) (by omega) (by omega)
      · have h34 := zb0.mp h34
        refine g_aload_n (i := 0) (by decide +kernel) rfl ?_
        refine g_iconst (a := 2) (by decide +kernel) ?_
        refine g_cVI (st := _) (c_Md_refuse hn) k_Md_refuse l_Md_295 (by decide +kernel) (by omega) rfl rfl rfl rfl (Nat.le_of_ble_eq_true rfl) (by decide) ⟨by decide, by decide⟩ ?_
        rintro a9 σ9 ⟨ea9, hσ9⟩
        obtain rfl := ea9.symm
        subst hσ9
        refine g_retI (by decide +kernel) rfl (Or.inl rfl) ⟨by decide, by decide⟩ ?_
        exact zRM.ref f0 (by rw [if_neg (by omega), if_pos (by omega)]) (by decide)
    · have h20 := zb0.mp h20
      refine g_aload_n (i := 0) (by decide +kernel) rfl ?_
      refine g_iconst (a := 1) (by decide +kernel) ?_
      refine g_cVI (st := _) (c_Md_refuse hn) k_Md_refuse l_Md_295 (by decide +kernel) (by omega) rfl rfl rfl rfl (Nat.le_of_ble_eq_true rfl) (by decide) ⟨by decide, by decide⟩ ?_
      rintro a9 σ9 ⟨ea9, hσ9⟩
      obtain rfl := ea9.symm
      subst hσ9
      refine g_retI (by decide +kernel) rfl (Or.inl rfl) ⟨by decide, by decide⟩ ?_
      exact zRM.ref f0 (by rw [if_pos (by omega)]) (by decide)
