/-! READING in the reference: a mark -/
theorem zbit0 : ∀ t, t < 1024 → ∀ i, i < 10 → (t / 2 ^ i &&& 1 = 0 ↔ t * 8 &&& 2 ^ (i + 3) = 0) ∧ (t ||| 2 ^ i) * 8 = t * 8 ||| 2 ^ (i + 3) := by decide +kernel
theorem zTab_m : ∀ w, w < 9 → w ≠ 4 → w ≠ 5 → zTab 2 w = (if w < 4 then 1 else 0) ∧ zTab 1 w = (if w = 1 then 4 else if w = 2 then 9 else if w < 4 then 999 else if w = 6 then 9 else 20) := by decide
abbrev zAT (A : zAb) (i : Nat) : zAb := zAm A.q A.D A.nm A.sn (A.td ||| 2 ^ i) A.op A.mk
theorem zpK_5 {b : Nat → Int} {n0 k w : Nat} {A : zAb} (hw : zkw b n0 A.q = (w : Int)) (h3 : 3 ≤ w) (h : ¬ (A.td &&& 2 ^ (min w 12) = 0 ∧ (w < 13 ∨ (A.D 2 k ≠ -1 ∧ A.D 1 (A.D 2 k).toNat = 1)))) : zpK b n0 A k = .inl (5, A.q) := by
  have e : (min (zkw b n0 A.q) 12).toNat = min w 12 := by rw [hw]; omega
  unfold zpK
  rw [if_neg (by omega), e]
  by_cases z : A.td &&& 2 ^ (min w 12) = 0
  · have g : ¬ (w < 13 ∨ (A.D 2 k ≠ -1 ∧ A.D 1 (A.D 2 k).toNat = 1)) := fun y => h ⟨z, y⟩
    rw [if_neg (fun y => y z), if_neg (by omega)]
    unfold zpB
    rw [if_pos ⟨by omega, fun y => g (Or.inr y)⟩]
  · rw [if_pos z]
theorem zpK_g {b : Nat → Int} {n0 k w : Nat} {A : zAb} (hw : zkw b n0 A.q = (w : Int)) (h3 : 3 ≤ w) (h : A.td &&& 2 ^ (min w 12) = 0 ∧ (w < 13 ∨ (A.D 2 k ≠ -1 ∧ A.D 1 (A.D 2 k).toNat = 1))) : zpK b n0 A k = if w < 12 then zpM b n0 (zAT A (min w 12)) k (w - 3) else zpBt b n0 (zAm (znx b n0 A.q) A.D A.nm A.sn (A.td ||| 2 ^ (min w 12)) A.op A.mk) k ((w : Int) - 12) := by
  have e : (min (zkw b n0 A.q) 12).toNat = min w 12 := by rw [hw]; omega
  unfold zpK
  rw [if_neg (by omega), e, if_neg (fun y => y h.1), hw]
  by_cases z : w < 12
  · rw [if_pos (by omega), if_pos z, show ((w : Int) - 3).toNat = w - 3 by omega]
  · rw [if_neg (by omega), if_neg z]
    refine zpB_t (A := zAT A (min w 12)) (fun y => y.2 ?_)
    rcases h.2 with q | q
    · exact absurd y.1 (by omega)
    · exact q
theorem t_Md_readsMark116 {G : zG} {X : zX} {n : Nat} {σ : zSt} {b : Nat → Int} {n0 : Nat} {σ0 : zSt} {A : zAb} {k w : Nat} (hn : 220 ≤ n) (h0 : zR0 b n0 σ0) (hn0 : n0 ≤ 600) (hA : zAi n0 A) (hv : zAv A) (hk : A.mk = (k : Int)) (hw : zkw b n0 A.q = (w : Int)) (w3 : 3 ≤ w) (w15 : w ≤ 15) (ok : A.td &&& 2 ^ (min w 12) = 0 ∧ (w < 13 ∨ (A.D 2 k ≠ -1 ∧ A.D 1 (A.D 2 k).toNat = 1))) (hE : zRr b n0 σ0 (zAm (znx b n0 A.q) A.D A.nm A.sn (A.td ||| 2 ^ (min w 12)) A.op A.mk) σ) {x3 x4 : Int}  : Go G X m_Md_readsMark (5, 0, 0, 0, 0) n SH σ 116 [(0, vr G 189), (1, vi (k : Int)), (2, vi (w : Int)), (3, vi x3), (4, vi x4)] [] (zV n SH (fun σ' => zRg b n0 σ0 (zpK b n0 A k) σ')) := by
  have hG := hA.2.1
  have hq := hA.1
  obtain ⟨h5, kN, h2k⟩ := hv.m5 hA hk
  have k12 : k < 12 := by have := hA.2.2.2.1; have := hG.1; omega
  have td2 : A.td ||| 2 ^ (min w 12) < 8192 := Nat.or_lt_two_pow (n := 13) hA.2.2.2.2.2 (Nat.pow_lt_pow_right (by decide) (by omega))
  have hA2 : zAi n0 (zAm (znx b n0 A.q) A.D A.nm A.sn (A.td ||| 2 ^ (min w 12)) A.op A.mk) := ⟨(znx_r hq).2, hG, hA.2.2.1, hA.2.2.2.1, hA.2.2.2.2.1, td2⟩
  refine g_sipush (a := 1784) (by decide +kernel) (by decide) ?_
  refine g_bipush (a := 9) (by decide +kernel) (by decide) ?_
  refine g_iload_n (i := 1) (by decide +kernel) rfl ?_
  refine g_imul (by decide +kernel) ?_
  refine g_iadd (by decide +kernel) ?_
  refine g_iload_n (i := 2) (by decide +kernel) rfl ?_
  refine g_iadd (by decide +kernel) ?_
  refine g_iconst (a := 3) (by decide +kernel) ?_
  refine g_isub (by decide +kernel) ?_
  refine g_istore (i := 5) (L' := [(0, _), (1, _), (2, _), (3, _), (4, _), (5, _)]) (by decide +kernel) rfl rfl ?_
  refine g_iload_n (i := 2) (by decide +kernel) rfl ?_
  refine g_bipush (a := 7) (by decide +kernel) (by decide) ?_
  refine g_icmp_eq (off := 9) (tgt := 142) (by decide +kernel) (by decide) ⟨by omega, by omega⟩ ⟨by omega, by omega⟩ (fun h133 => ?_) (fun h133 => ?_)
  · refine g_aload_n (i := 0) (by decide +kernel) rfl ?_
    refine g_getr f_Md_7 (by decide +kernel) (by omega) rfl rfl ?_
    refine g_iload (i := 5) (by decide +kernel) rfl ?_
    refine g_iconst (a := 1) (by decide +kernel) ?_
    refine g_iast (j := (1784 + (9 * k + (w - 3)))) (by decide +kernel) (by omega) rfl (by omega) (by omega) (by decide) ?_
    refine g_goto (off := 89) (tgt := 239) (by decide +kernel) (by decide) ?_
    first
      | (refine g_retV (by decide +kernel) rfl ⟨by decide, by decide⟩ ?_
         show zRg _ _ _ _ _
         rw [zpK_g hw w3 ok, if_neg (by omega)]
         exact hS9)
      | (refine g_retV (by decide +kernel) rfl ⟨by decide, by decide⟩ ?_
         show zRg _ _ _ _ _
         rw [zpK_g hw w3 ok, if_pos (by omega)]
         unfold zpM
         rw [if_neg (by omega)]
         have tb := zTab_m (w - 3) (by omega) (by omega) (by omega)
         have tb2 : zTab 2 (w - 3) = 1 := by
           rw [tb.1]
           first | rw [if_pos (by omega)] | rw [if_neg (by omega)]
         have tb1 : zTab 1 (w - 3) = 4 := by
           rw [tb.2]
           repeat (first | rw [if_pos (by omega)] | rw [if_neg (by omega)])
         show zRg b n0 σ0 (if ¬ (zTt b n0 (znx b n0 A.q) = 3 ∧ zTab 2 (w - 3) ≤ zTs b n0 (znx b n0 A.q) ∧ zTs b n0 (znx b n0 A.q) ≤ zTab 1 (w - 3)) then .inl (znf b n0 (znx b n0 A.q), znx b n0 A.q) else .inr (zAm (znx b n0 (znx b n0 A.q)) (zs A.D 7 (9 * k + (w - 3)) (zTs b n0 (znx b n0 A.q))) A.nm A.sn (A.td ||| 2 ^ min w 12) A.op A.mk)) _
         rw [tb2, tb1]
         rcases hTk with ⟨hc, ea, hk8⟩ | ⟨hc, hF⟩
         · rw [if_neg (fun y => y hc)]
           refine ⟨?_, (hA2.m7 (j := 9 * k + (w - 3)) (v := zTs b n0 (znx b n0 A.q)) ⟨by have := hc.2.1; omega, by have := hc.2.2; omega⟩).tok (znx_r (znx_r hq).2).2⟩
           rw [ea]
           have g := (zRrK.nx hE hk8).putD (r := 7) (j := 9 * k + (w - 3)) (v := zTs b n0 (znx b n0 A.q)) hG (by decide) (by decide) (by decide) (by show 9 * k + (w - 3) < 108; omega)
           unfold zRr
           rw [show zN (zAm (znx b n0 (znx b n0 A.q)) (zs A.D 7 (9 * k + (w - 3)) (zTs b n0 (znx b n0 A.q))) A.nm A.sn (A.td ||| 2 ^ min w 12) A.op A.mk).D = zN A.D from zN_zs (by decide)]
           exact g
         · rw [if_pos hc]
           exact hF.drf (by omega))
      | (refine g_retV (by decide +kernel) rfl ⟨by decide, by decide⟩ ?_
         show zRg _ _ _ _ _
         rw [zpK_g hw w3 ok, if_pos (by omega)]
         unfold zpM
         rw [if_neg (by omega)]
         have tb := zTab_m (w - 3) (by omega) (by omega) (by omega)
         have tb2 : zTab 2 (w - 3) = 1 := by
           rw [tb.1]
           first | rw [if_pos (by omega)] | rw [if_neg (by omega)]
         have tb1 : zTab 1 (w - 3) = 9 := by
           rw [tb.2]
           repeat (first | rw [if_pos (by omega)] | rw [if_neg (by omega)])
         show zRg b n0 σ0 (if ¬ (zTt b n0 (znx b n0 A.q) = 3 ∧ zTab 2 (w - 3) ≤ zTs b n0 (znx b n0 A.q) ∧ zTs b n0 (znx b n0 A.q) ≤ zTab 1 (w - 3)) then .inl (znf b n0 (znx b n0 A.q), znx b n0 A.q) else .inr (zAm (znx b n0 (znx b n0 A.q)) (zs A.D 7 (9 * k + (w - 3)) (zTs b n0 (znx b n0 A.q))) A.nm A.sn (A.td ||| 2 ^ min w 12) A.op A.mk)) _
         rw [tb2, tb1]
         rcases hTk with ⟨hc, ea, hk8⟩ | ⟨hc, hF⟩
         · rw [if_neg (fun y => y hc)]
           refine ⟨?_, (hA2.m7 (j := 9 * k + (w - 3)) (v := zTs b n0 (znx b n0 A.q)) ⟨by have := hc.2.1; omega, by have := hc.2.2; omega⟩).tok (znx_r (znx_r hq).2).2⟩
           rw [ea]
           have g := (zRrK.nx hE hk8).putD (r := 7) (j := 9 * k + (w - 3)) (v := zTs b n0 (znx b n0 A.q)) hG (by decide) (by decide) (by decide) (by show 9 * k + (w - 3) < 108; omega)
           unfold zRr
           rw [show zN (zAm (znx b n0 (znx b n0 A.q)) (zs A.D 7 (9 * k + (w - 3)) (zTs b n0 (znx b n0 A.q))) A.nm A.sn (A.td ||| 2 ^ min w 12) A.op A.mk).D = zN A.D from zN_zs (by decide)]
           exact g
         · rw [if_pos hc]
           exact hF.drf (by omega))
      | (refine g_retV (by decide +kernel) rfl ⟨by decide, by decide⟩ ?_
         show zRg _ _ _ _ _
         rw [zpK_g hw w3 ok, if_pos (by omega)]
         unfold zpM
         rw [if_neg (by omega)]
         have tb := zTab_m (w - 3) (by omega) (by omega) (by omega)
         have tb2 : zTab 2 (w - 3) = 1 := by
           rw [tb.1]
           first | rw [if_pos (by omega)] | rw [if_neg (by omega)]
         have tb1 : zTab 1 (w - 3) = 999 := by
           rw [tb.2]
           repeat (first | rw [if_pos (by omega)] | rw [if_neg (by omega)])
         show zRg b n0 σ0 (if ¬ (zTt b n0 (znx b n0 A.q) = 3 ∧ zTab 2 (w - 3) ≤ zTs b n0 (znx b n0 A.q) ∧ zTs b n0 (znx b n0 A.q) ≤ zTab 1 (w - 3)) then .inl (znf b n0 (znx b n0 A.q), znx b n0 A.q) else .inr (zAm (znx b n0 (znx b n0 A.q)) (zs A.D 7 (9 * k + (w - 3)) (zTs b n0 (znx b n0 A.q))) A.nm A.sn (A.td ||| 2 ^ min w 12) A.op A.mk)) _
         rw [tb2, tb1]
         rcases hTk with ⟨hc, ea, hk8⟩ | ⟨hc, hF⟩
         · rw [if_neg (fun y => y hc)]
           refine ⟨?_, (hA2.m7 (j := 9 * k + (w - 3)) (v := zTs b n0 (znx b n0 A.q)) ⟨by have := hc.2.1; omega, by have := hc.2.2; omega⟩).tok (znx_r (znx_r hq).2).2⟩
           rw [ea]
           have g := (zRrK.nx hE hk8).putD (r := 7) (j := 9 * k + (w - 3)) (v := zTs b n0 (znx b n0 A.q)) hG (by decide) (by decide) (by decide) (by show 9 * k + (w - 3) < 108; omega)
           unfold zRr
           rw [show zN (zAm (znx b n0 (znx b n0 A.q)) (zs A.D 7 (9 * k + (w - 3)) (zTs b n0 (znx b n0 A.q))) A.nm A.sn (A.td ||| 2 ^ min w 12) A.op A.mk).D = zN A.D from zN_zs (by decide)]
           exact g
         · rw [if_pos hc]
           exact hF.drf (by omega))
      | (refine g_retV (by decide +kernel) rfl ⟨by decide, by decide⟩ ?_
         show zRg _ _ _ _ _
         rw [zpK_g hw w3 ok, if_pos (by omega)]
         unfold zpM
         rw [if_neg (by omega)]
         have tb := zTab_m (w - 3) (by omega) (by omega) (by omega)
         have tb2 : zTab 2 (w - 3) = 0 := by
           rw [tb.1]
           first | rw [if_pos (by omega)] | rw [if_neg (by omega)]
         have tb1 : zTab 1 (w - 3) = 9 := by
           rw [tb.2]
           repeat (first | rw [if_pos (by omega)] | rw [if_neg (by omega)])
         show zRg b n0 σ0 (if ¬ (zTt b n0 (znx b n0 A.q) = 3 ∧ zTab 2 (w - 3) ≤ zTs b n0 (znx b n0 A.q) ∧ zTs b n0 (znx b n0 A.q) ≤ zTab 1 (w - 3)) then .inl (znf b n0 (znx b n0 A.q), znx b n0 A.q) else .inr (zAm (znx b n0 (znx b n0 A.q)) (zs A.D 7 (9 * k + (w - 3)) (zTs b n0 (znx b n0 A.q))) A.nm A.sn (A.td ||| 2 ^ min w 12) A.op A.mk)) _
         rw [tb2, tb1]
         rcases hTk with ⟨hc, ea, hk8⟩ | ⟨hc, hF⟩
         · rw [if_neg (fun y => y hc)]
           refine ⟨?_, (hA2.m7 (j := 9 * k + (w - 3)) (v := zTs b n0 (znx b n0 A.q)) ⟨by have := hc.2.1; omega, by have := hc.2.2; omega⟩).tok (znx_r (znx_r hq).2).2⟩
           rw [ea]
           have g := (zRrK.nx hE hk8).putD (r := 7) (j := 9 * k + (w - 3)) (v := zTs b n0 (znx b n0 A.q)) hG (by decide) (by decide) (by decide) (by show 9 * k + (w - 3) < 108; omega)
           unfold zRr
           rw [show zN (zAm (znx b n0 (znx b n0 A.q)) (zs A.D 7 (9 * k + (w - 3)) (zTs b n0 (znx b n0 A.q))) A.nm A.sn (A.td ||| 2 ^ min w 12) A.op A.mk).D = zN A.D from zN_zs (by decide)]
           exact g
         · rw [if_pos hc]
           exact hF.drf (by omega))
      | (refine g_retV (by decide +kernel) rfl ⟨by decide, by decide⟩ ?_
         show zRg _ _ _ _ _
         rw [zpK_g hw w3 ok, if_pos (by omega)]
         unfold zpM
         rw [if_neg (by omega)]
         have tb := zTab_m (w - 3) (by omega) (by omega) (by omega)
         have tb2 : zTab 2 (w - 3) = 0 := by
           rw [tb.1]
           first | rw [if_pos (by omega)] | rw [if_neg (by omega)]
         have tb1 : zTab 1 (w - 3) = 20 := by
           rw [tb.2]
           repeat (first | rw [if_pos (by omega)] | rw [if_neg (by omega)])
         show zRg b n0 σ0 (if ¬ (zTt b n0 (znx b n0 A.q) = 3 ∧ zTab 2 (w - 3) ≤ zTs b n0 (znx b n0 A.q) ∧ zTs b n0 (znx b n0 A.q) ≤ zTab 1 (w - 3)) then .inl (znf b n0 (znx b n0 A.q), znx b n0 A.q) else .inr (zAm (znx b n0 (znx b n0 A.q)) (zs A.D 7 (9 * k + (w - 3)) (zTs b n0 (znx b n0 A.q))) A.nm A.sn (A.td ||| 2 ^ min w 12) A.op A.mk)) _
         rw [tb2, tb1]
         rcases hTk with ⟨hc, ea, hk8⟩ | ⟨hc, hF⟩
         · rw [if_neg (fun y => y hc)]
           refine ⟨?_, (hA2.m7 (j := 9 * k + (w - 3)) (v := zTs b n0 (znx b n0 A.q)) ⟨by have := hc.2.1; omega, by have := hc.2.2; omega⟩).tok (znx_r (znx_r hq).2).2⟩
           rw [ea]
           have g := (zRrK.nx hE hk8).putD (r := 7) (j := 9 * k + (w - 3)) (v := zTs b n0 (znx b n0 A.q)) hG (by decide) (by decide) (by decide) (by show 9 * k + (w - 3) < 108; omega)
           unfold zRr
           rw [show zN (zAm (znx b n0 (znx b n0 A.q)) (zs A.D 7 (9 * k + (w - 3)) (zTs b n0 (znx b n0 A.q))) A.nm A.sn (A.td ||| 2 ^ min w 12) A.op A.mk).D = zN A.D from zN_zs (by decide)]
           exact g
         · rw [if_pos hc]
           exact hF.drf (by omega))
      | (refine g_retV (by decide +kernel) rfl ⟨by decide, by decide⟩ ?_
         show zRg _ _ _ _ _
         rw [zpK_g hw w3 ok, if_pos (by omega)]
         unfold zpM
         rw [if_pos (by omega)]
         refine ⟨?_, hA2.m7 (by decide)⟩
         have g := zRrK.putD (r := 7) (j := 9 * k + (w - 3)) (v := 1) hE hG (by decide) (by decide) (by decide) (by show 9 * k + (w - 3) < 108; omega)
         unfold zRr
         rw [show zN (zAm (znx b n0 A.q) (zs A.D 7 (9 * k + (w - 3)) 1) A.nm A.sn (A.td ||| 2 ^ min w 12) A.op A.mk).D = zN A.D from zN_zs (by decide)]
         exact g)
  · refine g_iload_n (i := 2) (by decide +kernel) rfl ?_
    refine g_bipush (a := 8) (by decide +kernel) (by decide) ?_
    refine g_icmp_ne (off := 14) (tgt := 153) (by decide +kernel) (by decide) ⟨by omega, by omega⟩ ⟨by omega, by omega⟩ (fun h139 => ?_) (fun h139 => ?_)
    · refine g_iload_n (i := 2) (by decide +kernel) rfl ?_
      refine g_bipush (a := 9) (by decide +kernel) (by decide) ?_
      refine g_icmp_ge (off := 40) (tgt := 196) (by decide +kernel) (by decide) ⟨by omega, by omega⟩ ⟨by omega, by omega⟩ (fun h156 => ?_) (fun h156 => ?_)
      · refine g_iload_n (i := 2) (by decide +kernel) rfl ?_
        refine g_bipush (a := 12) (by decide +kernel) (by decide) ?_
        refine g_icmp_ge (off := 31) (tgt := 230) (by decide +kernel) (by decide) ⟨by omega, by omega⟩ ⟨by omega, by omega⟩ (fun h199 => ?_) (fun h199 => ?_)
        · refine g_aload_n (i := 0) (by decide +kernel) rfl ?_
          refine g_iload_n (i := 1) (by decide +kernel) rfl ?_
          refine g_iload_n (i := 2) (by decide +kernel) rfl ?_
          refine g_bipush (a := 12) (by decide +kernel) (by decide) ?_
          refine g_isub (by decide +kernel) ?_
          refine g_cVV (st := _) (c_Md_readsStart (A := (zAm (znx b n0 A.q) A.D A.nm A.sn (A.td ||| 2 ^ (min w 12)) A.op A.mk)) hn h0 hn0 hA2 hk h5 ⟨by omega, by omega⟩ hE) k_Md_readsStart l_Md_256 (by decide +kernel) (by omega) rfl rfl rfl rfl (Nat.le_of_ble_eq_true rfl) (by decide) ⟨by decide, by decide⟩ ?_
          rintro τ9 hS9
          first
            | (refine g_retV (by decide +kernel) rfl ⟨by decide, by decide⟩ ?_
               show zRg _ _ _ _ _
               rw [zpK_g hw w3 ok, if_neg (by omega)]
               exact hS9)
            | (refine g_retV (by decide +kernel) rfl ⟨by decide, by decide⟩ ?_
               show zRg _ _ _ _ _
               rw [zpK_g hw w3 ok, if_pos (by omega)]
               unfold zpM
               rw [if_neg (by omega)]
               have tb := zTab_m (w - 3) (by omega) (by omega) (by omega)
               have tb2 : zTab 2 (w - 3) = 1 := by
                 rw [tb.1]
                 first | rw [if_pos (by omega)] | rw [if_neg (by omega)]
               have tb1 : zTab 1 (w - 3) = 4 := by
                 rw [tb.2]
                 repeat (first | rw [if_pos (by omega)] | rw [if_neg (by omega)])
               show zRg b n0 σ0 (if ¬ (zTt b n0 (znx b n0 A.q) = 3 ∧ zTab 2 (w - 3) ≤ zTs b n0 (znx b n0 A.q) ∧ zTs b n0 (znx b n0 A.q) ≤ zTab 1 (w - 3)) then .inl (znf b n0 (znx b n0 A.q), znx b n0 A.q) else .inr (zAm (znx b n0 (znx b n0 A.q)) (zs A.D 7 (9 * k + (w - 3)) (zTs b n0 (znx b n0 A.q))) A.nm A.sn (A.td ||| 2 ^ min w 12) A.op A.mk)) _
               rw [tb2, tb1]
               rcases hTk with ⟨hc, ea, hk8⟩ | ⟨hc, hF⟩
               · rw [if_neg (fun y => y hc)]
                 refine ⟨?_, (hA2.m7 (j := 9 * k + (w - 3)) (v := zTs b n0 (znx b n0 A.q)) ⟨by have := hc.2.1; omega, by have := hc.2.2; omega⟩).tok (znx_r (znx_r hq).2).2⟩
                 rw [ea]
                 have g := (zRrK.nx hE hk8).putD (r := 7) (j := 9 * k + (w - 3)) (v := zTs b n0 (znx b n0 A.q)) hG (by decide) (by decide) (by decide) (by show 9 * k + (w - 3) < 108; omega)
                 unfold zRr
                 rw [show zN (zAm (znx b n0 (znx b n0 A.q)) (zs A.D 7 (9 * k + (w - 3)) (zTs b n0 (znx b n0 A.q))) A.nm A.sn (A.td ||| 2 ^ min w 12) A.op A.mk).D = zN A.D from zN_zs (by decide)]
                 exact g
               · rw [if_pos hc]
                 exact hF.drf (by omega))
            | (refine g_retV (by decide +kernel) rfl ⟨by decide, by decide⟩ ?_
               show zRg _ _ _ _ _
               rw [zpK_g hw w3 ok, if_pos (by omega)]
               unfold zpM
               rw [if_neg (by omega)]
               have tb := zTab_m (w - 3) (by omega) (by omega) (by omega)
               have tb2 : zTab 2 (w - 3) = 1 := by
                 rw [tb.1]
                 first | rw [if_pos (by omega)] | rw [if_neg (by omega)]
               have tb1 : zTab 1 (w - 3) = 9 := by
                 rw [tb.2]
                 repeat (first | rw [if_pos (by omega)] | rw [if_neg (by omega)])
               show zRg b n0 σ0 (if ¬ (zTt b n0 (znx b n0 A.q) = 3 ∧ zTab 2 (w - 3) ≤ zTs b n0 (znx b n0 A.q) ∧ zTs b n0 (znx b n0 A.q) ≤ zTab 1 (w - 3)) then .inl (znf b n0 (znx b n0 A.q), znx b n0 A.q) else .inr (zAm (znx b n0 (znx b n0 A.q)) (zs A.D 7 (9 * k + (w - 3)) (zTs b n0 (znx b n0 A.q))) A.nm A.sn (A.td ||| 2 ^ min w 12) A.op A.mk)) _
               rw [tb2, tb1]
               rcases hTk with ⟨hc, ea, hk8⟩ | ⟨hc, hF⟩
               · rw [if_neg (fun y => y hc)]
                 refine ⟨?_, (hA2.m7 (j := 9 * k + (w - 3)) (v := zTs b n0 (znx b n0 A.q)) ⟨by have := hc.2.1; omega, by have := hc.2.2; omega⟩).tok (znx_r (znx_r hq).2).2⟩
                 rw [ea]
                 have g := (zRrK.nx hE hk8).putD (r := 7) (j := 9 * k + (w - 3)) (v := zTs b n0 (znx b n0 A.q)) hG (by decide) (by decide) (by decide) (by show 9 * k + (w - 3) < 108; omega)
                 unfold zRr
                 rw [show zN (zAm (znx b n0 (znx b n0 A.q)) (zs A.D 7 (9 * k + (w - 3)) (zTs b n0 (znx b n0 A.q))) A.nm A.sn (A.td ||| 2 ^ min w 12) A.op A.mk).D = zN A.D from zN_zs (by decide)]
                 exact g
               · rw [if_pos hc]
                 exact hF.drf (by omega))
            | (refine g_retV (by decide +kernel) rfl ⟨by decide, by decide⟩ ?_
               show zRg _ _ _ _ _
               rw [zpK_g hw w3 ok, if_pos (by omega)]
               unfold zpM
               rw [if_neg (by omega)]
               have tb := zTab_m (w - 3) (by omega) (by omega) (by omega)
               have tb2 : zTab 2 (w - 3) = 1 := by
                 rw [tb.1]
                 first | rw [if_pos (by omega)] | rw [if_neg (by omega)]
               have tb1 : zTab 1 (w - 3) = 999 := by
                 rw [tb.2]
                 repeat (first | rw [if_pos (by omega)] | rw [if_neg (by omega)])
               show zRg b n0 σ0 (if ¬ (zTt b n0 (znx b n0 A.q) = 3 ∧ zTab 2 (w - 3) ≤ zTs b n0 (znx b n0 A.q) ∧ zTs b n0 (znx b n0 A.q) ≤ zTab 1 (w - 3)) then .inl (znf b n0 (znx b n0 A.q), znx b n0 A.q) else .inr (zAm (znx b n0 (znx b n0 A.q)) (zs A.D 7 (9 * k + (w - 3)) (zTs b n0 (znx b n0 A.q))) A.nm A.sn (A.td ||| 2 ^ min w 12) A.op A.mk)) _
               rw [tb2, tb1]
               rcases hTk with ⟨hc, ea, hk8⟩ | ⟨hc, hF⟩
               · rw [if_neg (fun y => y hc)]
                 refine ⟨?_, (hA2.m7 (j := 9 * k + (w - 3)) (v := zTs b n0 (znx b n0 A.q)) ⟨by have := hc.2.1; omega, by have := hc.2.2; omega⟩).tok (znx_r (znx_r hq).2).2⟩
                 rw [ea]
                 have g := (zRrK.nx hE hk8).putD (r := 7) (j := 9 * k + (w - 3)) (v := zTs b n0 (znx b n0 A.q)) hG (by decide) (by decide) (by decide) (by show 9 * k + (w - 3) < 108; omega)
                 unfold zRr
                 rw [show zN (zAm (znx b n0 (znx b n0 A.q)) (zs A.D 7 (9 * k + (w - 3)) (zTs b n0 (znx b n0 A.q))) A.nm A.sn (A.td ||| 2 ^ min w 12) A.op A.mk).D = zN A.D from zN_zs (by decide)]
                 exact g
               · rw [if_pos hc]
                 exact hF.drf (by omega))
            | (refine g_retV (by decide +kernel) rfl ⟨by decide, by decide⟩ ?_
               show zRg _ _ _ _ _
               rw [zpK_g hw w3 ok, if_pos (by omega)]
               unfold zpM
               rw [if_neg (by omega)]
               have tb := zTab_m (w - 3) (by omega) (by omega) (by omega)
               have tb2 : zTab 2 (w - 3) = 0 := by
                 rw [tb.1]
                 first | rw [if_pos (by omega)] | rw [if_neg (by omega)]
               have tb1 : zTab 1 (w - 3) = 9 := by
                 rw [tb.2]
                 repeat (first | rw [if_pos (by omega)] | rw [if_neg (by omega)])
               show zRg b n0 σ0 (if ¬ (zTt b n0 (znx b n0 A.q) = 3 ∧ zTab 2 (w - 3) ≤ zTs b n0 (znx b n0 A.q) ∧ zTs b n0 (znx b n0 A.q) ≤ zTab 1 (w - 3)) then .inl (znf b n0 (znx b n0 A.q), znx b n0 A.q) else .inr (zAm (znx b n0 (znx b n0 A.q)) (zs A.D 7 (9 * k + (w - 3)) (zTs b n0 (znx b n0 A.q))) A.nm A.sn (A.td ||| 2 ^ min w 12) A.op A.mk)) _
               rw [tb2, tb1]
               rcases hTk with ⟨hc, ea, hk8⟩ | ⟨hc, hF⟩
               · rw [if_neg (fun y => y hc)]
                 refine ⟨?_, (hA2.m7 (j := 9 * k + (w - 3)) (v := zTs b n0 (znx b n0 A.q)) ⟨by have := hc.2.1; omega, by have := hc.2.2; omega⟩).tok (znx_r (znx_r hq).2).2⟩
                 rw [ea]
                 have g := (zRrK.nx hE hk8).putD (r := 7) (j := 9 * k + (w - 3)) (v := zTs b n0 (znx b n0 A.q)) hG (by decide) (by decide) (by decide) (by show 9 * k + (w - 3) < 108; omega)
                 unfold zRr
                 rw [show zN (zAm (znx b n0 (znx b n0 A.q)) (zs A.D 7 (9 * k + (w - 3)) (zTs b n0 (znx b n0 A.q))) A.nm A.sn (A.td ||| 2 ^ min w 12) A.op A.mk).D = zN A.D from zN_zs (by decide)]
                 exact g
               · rw [if_pos hc]
                 exact hF.drf (by omega))
            | (refine g_retV (by decide +kernel) rfl ⟨by decide, by decide⟩ ?_
               show zRg _ _ _ _ _
               rw [zpK_g hw w3 ok, if_pos (by omega)]
               unfold zpM
               rw [if_neg (by omega)]
               have tb := zTab_m (w - 3) (by omega) (by omega) (by omega)
               have tb2 : zTab 2 (w - 3) = 0 := by
                 rw [tb.1]
                 first | rw [if_pos (by omega)] | rw [if_neg (by omega)]
               have tb1 : zTab 1 (w - 3) = 20 := by
                 rw [tb.2]
                 repeat (first | rw [if_pos (by omega)] | rw [if_neg (by omega)])
               show zRg b n0 σ0 (if ¬ (zTt b n0 (znx b n0 A.q) = 3 ∧ zTab 2 (w - 3) ≤ zTs b n0 (znx b n0 A.q) ∧ zTs b n0 (znx b n0 A.q) ≤ zTab 1 (w - 3)) then .inl (znf b n0 (znx b n0 A.q), znx b n0 A.q) else .inr (zAm (znx b n0 (znx b n0 A.q)) (zs A.D 7 (9 * k + (w - 3)) (zTs b n0 (znx b n0 A.q))) A.nm A.sn (A.td ||| 2 ^ min w 12) A.op A.mk)) _
               rw [tb2, tb1]
               rcases hTk with ⟨hc, ea, hk8⟩ | ⟨hc, hF⟩
               · rw [if_neg (fun y => y hc)]
                 refine ⟨?_, (hA2.m7 (j := 9 * k + (w - 3)) (v := zTs b n0 (znx b n0 A.q)) ⟨by have := hc.2.1; omega, by have := hc.2.2; omega⟩).tok (znx_r (znx_r hq).2).2⟩
                 rw [ea]
                 have g := (zRrK.nx hE hk8).putD (r := 7) (j := 9 * k + (w - 3)) (v := zTs b n0 (znx b n0 A.q)) hG (by decide) (by decide) (by decide) (by show 9 * k + (w - 3) < 108; omega)
                 unfold zRr
                 rw [show zN (zAm (znx b n0 (znx b n0 A.q)) (zs A.D 7 (9 * k + (w - 3)) (zTs b n0 (znx b n0 A.q))) A.nm A.sn (A.td ||| 2 ^ min w 12) A.op A.mk).D = zN A.D from zN_zs (by decide)]
                 exact g
               · rw [if_pos hc]
                 exact hF.drf (by omega))
            | (refine g_retV (by decide +kernel) rfl ⟨by decide, by decide⟩ ?_
               show zRg _ _ _ _ _
               rw [zpK_g hw w3 ok, if_pos (by omega)]
               unfold zpM
               rw [if_pos (by omega)]
               refine ⟨?_, hA2.m7 (by decide)⟩
               have g := zRrK.putD (r := 7) (j := 9 * k + (w - 3)) (v := 1) hE hG (by decide) (by decide) (by decide) (by show 9 * k + (w - 3) < 108; omega)
               unfold zRr
               rw [show zN (zAm (znx b n0 A.q) (zs A.D 7 (9 * k + (w - 3)) 1) A.nm A.sn (A.td ||| 2 ^ min w 12) A.op A.mk).D = zN A.D from zN_zs (by decide)]
               exact g)
        · refine g_aload_n (i := 0) (by decide +kernel) rfl ?_
          refine g_getr f_Md_7 (by decide +kernel) (by omega) rfl rfl ?_
          refine g_iload (i := 5) (by decide +kernel) rfl ?_
          refine g_aload_n (i := 0) (by decide +kernel) rfl ?_
          refine g_iconst (a := 0) (by decide +kernel) ?_
          refine g_iload_n (i := 2) (by decide +kernel) rfl ?_
          refine g_bipush (a := 9) (by decide +kernel) (by decide) ?_
          refine g_icmp_ne (off := 8) (tgt := 221) (by decide +kernel) (by decide) ⟨by omega, by omega⟩ ⟨by omega, by omega⟩ (fun h213 => ?_) (fun h213 => ?_)
          · refine g_bipush (a := 20) (by decide +kernel) (by decide) ?_
            refine g_cVI (st := _) (c_Md_takesNumber (q := znx b n0 A.q) hn h0 hn0 hE.1 (znx_r hq).2 ⟨by decide, by decide⟩ ⟨by decide, by decide⟩) k_Md_takesNumber l_Md_253 (by decide +kernel) (by omega) rfl rfl rfl rfl (Nat.le_of_ble_eq_true rfl) (by decide) ⟨by decide, by decide⟩ ?_
            rintro a9 τ9 hTk
            refine g_iast (j := (1784 + (9 * k + (w - 3)))) (by decide +kernel) (by omega) rfl (by omega) (by omega) (by decide) ?_
            refine g_goto (off := 12) (tgt := 239) (by decide +kernel) (by decide) ?_
            first
              | (refine g_retV (by decide +kernel) rfl ⟨by decide, by decide⟩ ?_
                 show zRg _ _ _ _ _
                 rw [zpK_g hw w3 ok, if_neg (by omega)]
                 exact hS9)
              | (refine g_retV (by decide +kernel) rfl ⟨by decide, by decide⟩ ?_
                 show zRg _ _ _ _ _
                 rw [zpK_g hw w3 ok, if_pos (by omega)]
                 unfold zpM
                 rw [if_neg (by omega)]
                 have tb := zTab_m (w - 3) (by omega) (by omega) (by omega)
                 have tb2 : zTab 2 (w - 3) = 1 := by
                   rw [tb.1]
                   first | rw [if_pos (by omega)] | rw [if_neg (by omega)]
                 have tb1 : zTab 1 (w - 3) = 4 := by
                   rw [tb.2]
                   repeat (first | rw [if_pos (by omega)] | rw [if_neg (by omega)])
                 show zRg b n0 σ0 (if ¬ (zTt b n0 (znx b n0 A.q) = 3 ∧ zTab 2 (w - 3) ≤ zTs b n0 (znx b n0 A.q) ∧ zTs b n0 (znx b n0 A.q) ≤ zTab 1 (w - 3)) then .inl (znf b n0 (znx b n0 A.q), znx b n0 A.q) else .inr (zAm (znx b n0 (znx b n0 A.q)) (zs A.D 7 (9 * k + (w - 3)) (zTs b n0 (znx b n0 A.q))) A.nm A.sn (A.td ||| 2 ^ min w 12) A.op A.mk)) _
                 rw [tb2, tb1]
                 rcases hTk with ⟨hc, ea, hk8⟩ | ⟨hc, hF⟩
                 · rw [if_neg (fun y => y hc)]
                   refine ⟨?_, (hA2.m7 (j := 9 * k + (w - 3)) (v := zTs b n0 (znx b n0 A.q)) ⟨by have := hc.2.1; omega, by have := hc.2.2; omega⟩).tok (znx_r (znx_r hq).2).2⟩
                   rw [ea]
                   have g := (zRrK.nx hE hk8).putD (r := 7) (j := 9 * k + (w - 3)) (v := zTs b n0 (znx b n0 A.q)) hG (by decide) (by decide) (by decide) (by show 9 * k + (w - 3) < 108; omega)
                   unfold zRr
                   rw [show zN (zAm (znx b n0 (znx b n0 A.q)) (zs A.D 7 (9 * k + (w - 3)) (zTs b n0 (znx b n0 A.q))) A.nm A.sn (A.td ||| 2 ^ min w 12) A.op A.mk).D = zN A.D from zN_zs (by decide)]
                   exact g
                 · rw [if_pos hc]
                   exact hF.drf (by omega))
              | (refine g_retV (by decide +kernel) rfl ⟨by decide, by decide⟩ ?_
                 show zRg _ _ _ _ _
                 rw [zpK_g hw w3 ok, if_pos (by omega)]
                 unfold zpM
                 rw [if_neg (by omega)]
                 have tb := zTab_m (w - 3) (by omega) (by omega) (by omega)
                 have tb2 : zTab 2 (w - 3) = 1 := by
                   rw [tb.1]
                   first | rw [if_pos (by omega)] | rw [if_neg (by omega)]
                 have tb1 : zTab 1 (w - 3) = 9 := by
                   rw [tb.2]
                   repeat (first | rw [if_pos (by omega)] | rw [if_neg (by omega)])
                 show zRg b n0 σ0 (if ¬ (zTt b n0 (znx b n0 A.q) = 3 ∧ zTab 2 (w - 3) ≤ zTs b n0 (znx b n0 A.q) ∧ zTs b n0 (znx b n0 A.q) ≤ zTab 1 (w - 3)) then .inl (znf b n0 (znx b n0 A.q), znx b n0 A.q) else .inr (zAm (znx b n0 (znx b n0 A.q)) (zs A.D 7 (9 * k + (w - 3)) (zTs b n0 (znx b n0 A.q))) A.nm A.sn (A.td ||| 2 ^ min w 12) A.op A.mk)) _
                 rw [tb2, tb1]
                 rcases hTk with ⟨hc, ea, hk8⟩ | ⟨hc, hF⟩
                 · rw [if_neg (fun y => y hc)]
                   refine ⟨?_, (hA2.m7 (j := 9 * k + (w - 3)) (v := zTs b n0 (znx b n0 A.q)) ⟨by have := hc.2.1; omega, by have := hc.2.2; omega⟩).tok (znx_r (znx_r hq).2).2⟩
                   rw [ea]
                   have g := (zRrK.nx hE hk8).putD (r := 7) (j := 9 * k + (w - 3)) (v := zTs b n0 (znx b n0 A.q)) hG (by decide) (by decide) (by decide) (by show 9 * k + (w - 3) < 108; omega)
                   unfold zRr
                   rw [show zN (zAm (znx b n0 (znx b n0 A.q)) (zs A.D 7 (9 * k + (w - 3)) (zTs b n0 (znx b n0 A.q))) A.nm A.sn (A.td ||| 2 ^ min w 12) A.op A.mk).D = zN A.D from zN_zs (by decide)]
                   exact g
                 · rw [if_pos hc]
                   exact hF.drf (by omega))
              | (refine g_retV (by decide +kernel) rfl ⟨by decide, by decide⟩ ?_
                 show zRg _ _ _ _ _
                 rw [zpK_g hw w3 ok, if_pos (by omega)]
                 unfold zpM
                 rw [if_neg (by omega)]
                 have tb := zTab_m (w - 3) (by omega) (by omega) (by omega)
                 have tb2 : zTab 2 (w - 3) = 1 := by
                   rw [tb.1]
                   first | rw [if_pos (by omega)] | rw [if_neg (by omega)]
                 have tb1 : zTab 1 (w - 3) = 999 := by
                   rw [tb.2]
                   repeat (first | rw [if_pos (by omega)] | rw [if_neg (by omega)])
                 show zRg b n0 σ0 (if ¬ (zTt b n0 (znx b n0 A.q) = 3 ∧ zTab 2 (w - 3) ≤ zTs b n0 (znx b n0 A.q) ∧ zTs b n0 (znx b n0 A.q) ≤ zTab 1 (w - 3)) then .inl (znf b n0 (znx b n0 A.q), znx b n0 A.q) else .inr (zAm (znx b n0 (znx b n0 A.q)) (zs A.D 7 (9 * k + (w - 3)) (zTs b n0 (znx b n0 A.q))) A.nm A.sn (A.td ||| 2 ^ min w 12) A.op A.mk)) _
                 rw [tb2, tb1]
                 rcases hTk with ⟨hc, ea, hk8⟩ | ⟨hc, hF⟩
                 · rw [if_neg (fun y => y hc)]
                   refine ⟨?_, (hA2.m7 (j := 9 * k + (w - 3)) (v := zTs b n0 (znx b n0 A.q)) ⟨by have := hc.2.1; omega, by have := hc.2.2; omega⟩).tok (znx_r (znx_r hq).2).2⟩
                   rw [ea]
                   have g := (zRrK.nx hE hk8).putD (r := 7) (j := 9 * k + (w - 3)) (v := zTs b n0 (znx b n0 A.q)) hG (by decide) (by decide) (by decide) (by show 9 * k + (w - 3) < 108; omega)
                   unfold zRr
                   rw [show zN (zAm (znx b n0 (znx b n0 A.q)) (zs A.D 7 (9 * k + (w - 3)) (zTs b n0 (znx b n0 A.q))) A.nm A.sn (A.td ||| 2 ^ min w 12) A.op A.mk).D = zN A.D from zN_zs (by decide)]
                   exact g
                 · rw [if_pos hc]
                   exact hF.drf (by omega))
              | (refine g_retV (by decide +kernel) rfl ⟨by decide, by decide⟩ ?_
                 show zRg _ _ _ _ _
                 rw [zpK_g hw w3 ok, if_pos (by omega)]
                 unfold zpM
                 rw [if_neg (by omega)]
                 have tb := zTab_m (w - 3) (by omega) (by omega) (by omega)
                 have tb2 : zTab 2 (w - 3) = 0 := by
                   rw [tb.1]
                   first | rw [if_pos (by omega)] | rw [if_neg (by omega)]
                 have tb1 : zTab 1 (w - 3) = 9 := by
                   rw [tb.2]
                   repeat (first | rw [if_pos (by omega)] | rw [if_neg (by omega)])
                 show zRg b n0 σ0 (if ¬ (zTt b n0 (znx b n0 A.q) = 3 ∧ zTab 2 (w - 3) ≤ zTs b n0 (znx b n0 A.q) ∧ zTs b n0 (znx b n0 A.q) ≤ zTab 1 (w - 3)) then .inl (znf b n0 (znx b n0 A.q), znx b n0 A.q) else .inr (zAm (znx b n0 (znx b n0 A.q)) (zs A.D 7 (9 * k + (w - 3)) (zTs b n0 (znx b n0 A.q))) A.nm A.sn (A.td ||| 2 ^ min w 12) A.op A.mk)) _
                 rw [tb2, tb1]
                 rcases hTk with ⟨hc, ea, hk8⟩ | ⟨hc, hF⟩
                 · rw [if_neg (fun y => y hc)]
                   refine ⟨?_, (hA2.m7 (j := 9 * k + (w - 3)) (v := zTs b n0 (znx b n0 A.q)) ⟨by have := hc.2.1; omega, by have := hc.2.2; omega⟩).tok (znx_r (znx_r hq).2).2⟩
                   rw [ea]
                   have g := (zRrK.nx hE hk8).putD (r := 7) (j := 9 * k + (w - 3)) (v := zTs b n0 (znx b n0 A.q)) hG (by decide) (by decide) (by decide) (by show 9 * k + (w - 3) < 108; omega)
                   unfold zRr
                   rw [show zN (zAm (znx b n0 (znx b n0 A.q)) (zs A.D 7 (9 * k + (w - 3)) (zTs b n0 (znx b n0 A.q))) A.nm A.sn (A.td ||| 2 ^ min w 12) A.op A.mk).D = zN A.D from zN_zs (by decide)]
                   exact g
                 · rw [if_pos hc]
                   exact hF.drf (by omega))
              | (refine g_retV (by decide +kernel) rfl ⟨by decide, by decide⟩ ?_
                 show zRg _ _ _ _ _
                 rw [zpK_g hw w3 ok, if_pos (by omega)]
                 unfold zpM
                 rw [if_neg (by omega)]
                 have tb := zTab_m (w - 3) (by omega) (by omega) (by omega)
                 have tb2 : zTab 2 (w - 3) = 0 := by
                   rw [tb.1]
                   first | rw [if_pos (by omega)] | rw [if_neg (by omega)]
                 have tb1 : zTab 1 (w - 3) = 20 := by
                   rw [tb.2]
                   repeat (first | rw [if_pos (by omega)] | rw [if_neg (by omega)])
                 show zRg b n0 σ0 (if ¬ (zTt b n0 (znx b n0 A.q) = 3 ∧ zTab 2 (w - 3) ≤ zTs b n0 (znx b n0 A.q) ∧ zTs b n0 (znx b n0 A.q) ≤ zTab 1 (w - 3)) then .inl (znf b n0 (znx b n0 A.q), znx b n0 A.q) else .inr (zAm (znx b n0 (znx b n0 A.q)) (zs A.D 7 (9 * k + (w - 3)) (zTs b n0 (znx b n0 A.q))) A.nm A.sn (A.td ||| 2 ^ min w 12) A.op A.mk)) _
                 rw [tb2, tb1]
                 rcases hTk with ⟨hc, ea, hk8⟩ | ⟨hc, hF⟩
                 · rw [if_neg (fun y => y hc)]
                   refine ⟨?_, (hA2.m7 (j := 9 * k + (w - 3)) (v := zTs b n0 (znx b n0 A.q)) ⟨by have := hc.2.1; omega, by have := hc.2.2; omega⟩).tok (znx_r (znx_r hq).2).2⟩
                   rw [ea]
                   have g := (zRrK.nx hE hk8).putD (r := 7) (j := 9 * k + (w - 3)) (v := zTs b n0 (znx b n0 A.q)) hG (by decide) (by decide) (by decide) (by show 9 * k + (w - 3) < 108; omega)
                   unfold zRr
                   rw [show zN (zAm (znx b n0 (znx b n0 A.q)) (zs A.D 7 (9 * k + (w - 3)) (zTs b n0 (znx b n0 A.q))) A.nm A.sn (A.td ||| 2 ^ min w 12) A.op A.mk).D = zN A.D from zN_zs (by decide)]
                   exact g
                 · rw [if_pos hc]
                   exact hF.drf (by omega))
              | (refine g_retV (by decide +kernel) rfl ⟨by decide, by decide⟩ ?_
                 show zRg _ _ _ _ _
                 rw [zpK_g hw w3 ok, if_pos (by omega)]
                 unfold zpM
                 rw [if_pos (by omega)]
                 refine ⟨?_, hA2.m7 (by decide)⟩
                 have g := zRrK.putD (r := 7) (j := 9 * k + (w - 3)) (v := 1) hE hG (by decide) (by decide) (by decide) (by show 9 * k + (w - 3) < 108; omega)
                 unfold zRr
                 rw [show zN (zAm (znx b n0 A.q) (zs A.D 7 (9 * k + (w - 3)) 1) A.nm A.sn (A.td ||| 2 ^ min w 12) A.op A.mk).D = zN A.D from zN_zs (by decide)]
                 exact g)
          · refine g_bipush (a := 9) (by decide +kernel) (by decide) ?_
            refine g_goto (off := 5) (tgt := 223) (by decide +kernel) (by decide) ?_
            refine g_cVI (st := _) (c_Md_takesNumber (q := znx b n0 A.q) hn h0 hn0 hE.1 (znx_r hq).2 ⟨by decide, by decide⟩ ⟨by decide, by decide⟩) k_Md_takesNumber l_Md_253 (by decide +kernel) (by omega) rfl rfl rfl rfl (Nat.le_of_ble_eq_true rfl) (by decide) ⟨by decide, by decide⟩ ?_
            rintro a9 τ9 hTk
            refine g_iast (j := (1784 + (9 * k + (w - 3)))) (by decide +kernel) (by omega) rfl (by omega) (by omega) (by decide) ?_
            refine g_goto (off := 12) (tgt := 239) (by decide +kernel) (by decide) ?_
            first
              | (refine g_retV (by decide +kernel) rfl ⟨by decide, by decide⟩ ?_
                 show zRg _ _ _ _ _
                 rw [zpK_g hw w3 ok, if_neg (by omega)]
                 exact hS9)
              | (refine g_retV (by decide +kernel) rfl ⟨by decide, by decide⟩ ?_
                 show zRg _ _ _ _ _
                 rw [zpK_g hw w3 ok, if_pos (by omega)]
                 unfold zpM
                 rw [if_neg (by omega)]
                 have tb := zTab_m (w - 3) (by omega) (by omega) (by omega)
                 have tb2 : zTab 2 (w - 3) = 1 := by
                   rw [tb.1]
                   first | rw [if_pos (by omega)] | rw [if_neg (by omega)]
                 have tb1 : zTab 1 (w - 3) = 4 := by
                   rw [tb.2]
                   repeat (first | rw [if_pos (by omega)] | rw [if_neg (by omega)])
                 show zRg b n0 σ0 (if ¬ (zTt b n0 (znx b n0 A.q) = 3 ∧ zTab 2 (w - 3) ≤ zTs b n0 (znx b n0 A.q) ∧ zTs b n0 (znx b n0 A.q) ≤ zTab 1 (w - 3)) then .inl (znf b n0 (znx b n0 A.q), znx b n0 A.q) else .inr (zAm (znx b n0 (znx b n0 A.q)) (zs A.D 7 (9 * k + (w - 3)) (zTs b n0 (znx b n0 A.q))) A.nm A.sn (A.td ||| 2 ^ min w 12) A.op A.mk)) _
                 rw [tb2, tb1]
                 rcases hTk with ⟨hc, ea, hk8⟩ | ⟨hc, hF⟩
                 · rw [if_neg (fun y => y hc)]
                   refine ⟨?_, (hA2.m7 (j := 9 * k + (w - 3)) (v := zTs b n0 (znx b n0 A.q)) ⟨by have := hc.2.1; omega, by have := hc.2.2; omega⟩).tok (znx_r (znx_r hq).2).2⟩
                   rw [ea]
                   have g := (zRrK.nx hE hk8).putD (r := 7) (j := 9 * k + (w - 3)) (v := zTs b n0 (znx b n0 A.q)) hG (by decide) (by decide) (by decide) (by show 9 * k + (w - 3) < 108; omega)
                   unfold zRr
                   rw [show zN (zAm (znx b n0 (znx b n0 A.q)) (zs A.D 7 (9 * k + (w - 3)) (zTs b n0 (znx b n0 A.q))) A.nm A.sn (A.td ||| 2 ^ min w 12) A.op A.mk).D = zN A.D from zN_zs (by decide)]
                   exact g
                 · rw [if_pos hc]
                   exact hF.drf (by omega))
              | (refine g_retV (by decide +kernel) rfl ⟨by decide, by decide⟩ ?_
                 show zRg _ _ _ _ _
                 rw [zpK_g hw w3 ok, if_pos (by omega)]
                 unfold zpM
                 rw [if_neg (by omega)]
                 have tb := zTab_m (w - 3) (by omega) (by omega) (by omega)
                 have tb2 : zTab 2 (w - 3) = 1 := by
                   rw [tb.1]
                   first | rw [if_pos (by omega)] | rw [if_neg (by omega)]
                 have tb1 : zTab 1 (w - 3) = 9 := by
                   rw [tb.2]
                   repeat (first | rw [if_pos (by omega)] | rw [if_neg (by omega)])
                 show zRg b n0 σ0 (if ¬ (zTt b n0 (znx b n0 A.q) = 3 ∧ zTab 2 (w - 3) ≤ zTs b n0 (znx b n0 A.q) ∧ zTs b n0 (znx b n0 A.q) ≤ zTab 1 (w - 3)) then .inl (znf b n0 (znx b n0 A.q), znx b n0 A.q) else .inr (zAm (znx b n0 (znx b n0 A.q)) (zs A.D 7 (9 * k + (w - 3)) (zTs b n0 (znx b n0 A.q))) A.nm A.sn (A.td ||| 2 ^ min w 12) A.op A.mk)) _
                 rw [tb2, tb1]
                 rcases hTk with ⟨hc, ea, hk8⟩ | ⟨hc, hF⟩
                 · rw [if_neg (fun y => y hc)]
                   refine ⟨?_, (hA2.m7 (j := 9 * k + (w - 3)) (v := zTs b n0 (znx b n0 A.q)) ⟨by have := hc.2.1; omega, by have := hc.2.2; omega⟩).tok (znx_r (znx_r hq).2).2⟩
                   rw [ea]
                   have g := (zRrK.nx hE hk8).putD (r := 7) (j := 9 * k + (w - 3)) (v := zTs b n0 (znx b n0 A.q)) hG (by decide) (by decide) (by decide) (by show 9 * k + (w - 3) < 108; omega)
                   unfold zRr
                   rw [show zN (zAm (znx b n0 (znx b n0 A.q)) (zs A.D 7 (9 * k + (w - 3)) (zTs b n0 (znx b n0 A.q))) A.nm A.sn (A.td ||| 2 ^ min w 12) A.op A.mk).D = zN A.D from zN_zs (by decide)]
                   exact g
                 · rw [if_pos hc]
                   exact hF.drf (by omega))
              | (refine g_retV (by decide +kernel) rfl ⟨by decide, by decide⟩ ?_
                 show zRg _ _ _ _ _
                 rw [zpK_g hw w3 ok, if_pos (by omega)]
                 unfold zpM
                 rw [if_neg (by omega)]
                 have tb := zTab_m (w - 3) (by omega) (by omega) (by omega)
                 have tb2 : zTab 2 (w - 3) = 1 := by
                   rw [tb.1]
                   first | rw [if_pos (by omega)] | rw [if_neg (by omega)]
                 have tb1 : zTab 1 (w - 3) = 999 := by
                   rw [tb.2]
                   repeat (first | rw [if_pos (by omega)] | rw [if_neg (by omega)])
                 show zRg b n0 σ0 (if ¬ (zTt b n0 (znx b n0 A.q) = 3 ∧ zTab 2 (w - 3) ≤ zTs b n0 (znx b n0 A.q) ∧ zTs b n0 (znx b n0 A.q) ≤ zTab 1 (w - 3)) then .inl (znf b n0 (znx b n0 A.q), znx b n0 A.q) else .inr (zAm (znx b n0 (znx b n0 A.q)) (zs A.D 7 (9 * k + (w - 3)) (zTs b n0 (znx b n0 A.q))) A.nm A.sn (A.td ||| 2 ^ min w 12) A.op A.mk)) _
                 rw [tb2, tb1]
                 rcases hTk with ⟨hc, ea, hk8⟩ | ⟨hc, hF⟩
                 · rw [if_neg (fun y => y hc)]
                   refine ⟨?_, (hA2.m7 (j := 9 * k + (w - 3)) (v := zTs b n0 (znx b n0 A.q)) ⟨by have := hc.2.1; omega, by have := hc.2.2; omega⟩).tok (znx_r (znx_r hq).2).2⟩
                   rw [ea]
                   have g := (zRrK.nx hE hk8).putD (r := 7) (j := 9 * k + (w - 3)) (v := zTs b n0 (znx b n0 A.q)) hG (by decide) (by decide) (by decide) (by show 9 * k + (w - 3) < 108; omega)
                   unfold zRr
                   rw [show zN (zAm (znx b n0 (znx b n0 A.q)) (zs A.D 7 (9 * k + (w - 3)) (zTs b n0 (znx b n0 A.q))) A.nm A.sn (A.td ||| 2 ^ min w 12) A.op A.mk).D = zN A.D from zN_zs (by decide)]
                   exact g
                 · rw [if_pos hc]
                   exact hF.drf (by omega))
              | (refine g_retV (by decide +kernel) rfl ⟨by decide, by decide⟩ ?_
                 show zRg _ _ _ _ _
                 rw [zpK_g hw w3 ok, if_pos (by omega)]
                 unfold zpM
                 rw [if_neg (by omega)]
                 have tb := zTab_m (w - 3) (by omega) (by omega) (by omega)
                 have tb2 : zTab 2 (w - 3) = 0 := by
                   rw [tb.1]
                   first | rw [if_pos (by omega)] | rw [if_neg (by omega)]
                 have tb1 : zTab 1 (w - 3) = 9 := by
                   rw [tb.2]
                   repeat (first | rw [if_pos (by omega)] | rw [if_neg (by omega)])
                 show zRg b n0 σ0 (if ¬ (zTt b n0 (znx b n0 A.q) = 3 ∧ zTab 2 (w - 3) ≤ zTs b n0 (znx b n0 A.q) ∧ zTs b n0 (znx b n0 A.q) ≤ zTab 1 (w - 3)) then .inl (znf b n0 (znx b n0 A.q), znx b n0 A.q) else .inr (zAm (znx b n0 (znx b n0 A.q)) (zs A.D 7 (9 * k + (w - 3)) (zTs b n0 (znx b n0 A.q))) A.nm A.sn (A.td ||| 2 ^ min w 12) A.op A.mk)) _
                 rw [tb2, tb1]
                 rcases hTk with ⟨hc, ea, hk8⟩ | ⟨hc, hF⟩
                 · rw [if_neg (fun y => y hc)]
                   refine ⟨?_, (hA2.m7 (j := 9 * k + (w - 3)) (v := zTs b n0 (znx b n0 A.q)) ⟨by have := hc.2.1; omega, by have := hc.2.2; omega⟩).tok (znx_r (znx_r hq).2).2⟩
                   rw [ea]
                   have g := (zRrK.nx hE hk8).putD (r := 7) (j := 9 * k + (w - 3)) (v := zTs b n0 (znx b n0 A.q)) hG (by decide) (by decide) (by decide) (by show 9 * k + (w - 3) < 108; omega)
                   unfold zRr
                   rw [show zN (zAm (znx b n0 (znx b n0 A.q)) (zs A.D 7 (9 * k + (w - 3)) (zTs b n0 (znx b n0 A.q))) A.nm A.sn (A.td ||| 2 ^ min w 12) A.op A.mk).D = zN A.D from zN_zs (by decide)]
                   exact g
                 · rw [if_pos hc]
                   exact hF.drf (by omega))
              | (refine g_retV (by decide +kernel) rfl ⟨by decide, by decide⟩ ?_
                 show zRg _ _ _ _ _
                 rw [zpK_g hw w3 ok, if_pos (by omega)]
                 unfold zpM
                 rw [if_neg (by omega)]
                 have tb := zTab_m (w - 3) (by omega) (by omega) (by omega)
                 have tb2 : zTab 2 (w - 3) = 0 := by
                   rw [tb.1]
                   first | rw [if_pos (by omega)] | rw [if_neg (by omega)]
                 have tb1 : zTab 1 (w - 3) = 20 := by
                   rw [tb.2]
                   repeat (first | rw [if_pos (by omega)] | rw [if_neg (by omega)])
                 show zRg b n0 σ0 (if ¬ (zTt b n0 (znx b n0 A.q) = 3 ∧ zTab 2 (w - 3) ≤ zTs b n0 (znx b n0 A.q) ∧ zTs b n0 (znx b n0 A.q) ≤ zTab 1 (w - 3)) then .inl (znf b n0 (znx b n0 A.q), znx b n0 A.q) else .inr (zAm (znx b n0 (znx b n0 A.q)) (zs A.D 7 (9 * k + (w - 3)) (zTs b n0 (znx b n0 A.q))) A.nm A.sn (A.td ||| 2 ^ min w 12) A.op A.mk)) _
                 rw [tb2, tb1]
                 rcases hTk with ⟨hc, ea, hk8⟩ | ⟨hc, hF⟩
                 · rw [if_neg (fun y => y hc)]
                   refine ⟨?_, (hA2.m7 (j := 9 * k + (w - 3)) (v := zTs b n0 (znx b n0 A.q)) ⟨by have := hc.2.1; omega, by have := hc.2.2; omega⟩).tok (znx_r (znx_r hq).2).2⟩
                   rw [ea]
                   have g := (zRrK.nx hE hk8).putD (r := 7) (j := 9 * k + (w - 3)) (v := zTs b n0 (znx b n0 A.q)) hG (by decide) (by decide) (by decide) (by show 9 * k + (w - 3) < 108; omega)
                   unfold zRr
                   rw [show zN (zAm (znx b n0 (znx b n0 A.q)) (zs A.D 7 (9 * k + (w - 3)) (zTs b n0 (znx b n0 A.q))) A.nm A.sn (A.td ||| 2 ^ min w 12) A.op A.mk).D = zN A.D from zN_zs (by decide)]
                   exact g
                 · rw [if_pos hc]
                   exact hF.drf (by omega))
              | (refine g_retV (by decide +kernel) rfl ⟨by decide, by decide⟩ ?_
                 show zRg _ _ _ _ _
                 rw [zpK_g hw w3 ok, if_pos (by omega)]
                 unfold zpM
                 rw [if_pos (by omega)]
                 refine ⟨?_, hA2.m7 (by decide)⟩
                 have g := zRrK.putD (r := 7) (j := 9 * k + (w - 3)) (v := 1) hE hG (by decide) (by decide) (by decide) (by show 9 * k + (w - 3) < 108; omega)
                 unfold zRr
                 rw [show zN (zAm (znx b n0 A.q) (zs A.D 7 (9 * k + (w - 3)) 1) A.nm A.sn (A.td ||| 2 ^ min w 12) A.op A.mk).D = zN A.D from zN_zs (by decide)]
                 exact g)
      · refine g_aload_n (i := 0) (by decide +kernel) rfl ?_
        refine g_getr f_Md_7 (by decide +kernel) (by omega) rfl rfl ?_
        refine g_iload (i := 5) (by decide +kernel) rfl ?_
        refine g_aload_n (i := 0) (by decide +kernel) rfl ?_
        refine g_iconst (a := 1) (by decide +kernel) ?_
        refine g_iload_n (i := 2) (by decide +kernel) rfl ?_
        refine g_iconst (a := 4) (by decide +kernel) ?_
        refine g_icmp_ne (off := 7) (tgt := 176) (by decide +kernel) (by decide) ⟨by omega, by omega⟩ ⟨by omega, by omega⟩ (fun h169 => ?_) (fun h169 => ?_)
        · refine g_iload_n (i := 2) (by decide +kernel) rfl ?_
          refine g_iconst (a := 5) (by decide +kernel) ?_
          refine g_icmp_ne (off := 8) (tgt := 186) (by decide +kernel) (by decide) ⟨by omega, by omega⟩ ⟨by omega, by omega⟩ (fun h178 => ?_) (fun h178 => ?_)
          · refine g_sipush (a := 999) (by decide +kernel) (by decide) ?_
            refine g_cVI (st := _) (c_Md_takesNumber (q := znx b n0 A.q) hn h0 hn0 hE.1 (znx_r hq).2 ⟨by decide, by decide⟩ ⟨by decide, by decide⟩) k_Md_takesNumber l_Md_253 (by decide +kernel) (by omega) rfl rfl rfl rfl (Nat.le_of_ble_eq_true rfl) (by decide) ⟨by decide, by decide⟩ ?_
            rintro a9 τ9 hTk
            refine g_iast (j := (1784 + (9 * k + (w - 3)))) (by decide +kernel) (by omega) rfl (by omega) (by omega) (by decide) ?_
            refine g_goto (off := 46) (tgt := 239) (by decide +kernel) (by decide) ?_
            first
              | (refine g_retV (by decide +kernel) rfl ⟨by decide, by decide⟩ ?_
                 show zRg _ _ _ _ _
                 rw [zpK_g hw w3 ok, if_neg (by omega)]
                 exact hS9)
              | (refine g_retV (by decide +kernel) rfl ⟨by decide, by decide⟩ ?_
                 show zRg _ _ _ _ _
                 rw [zpK_g hw w3 ok, if_pos (by omega)]
                 unfold zpM
                 rw [if_neg (by omega)]
                 have tb := zTab_m (w - 3) (by omega) (by omega) (by omega)
                 have tb2 : zTab 2 (w - 3) = 1 := by
                   rw [tb.1]
                   first | rw [if_pos (by omega)] | rw [if_neg (by omega)]
                 have tb1 : zTab 1 (w - 3) = 4 := by
                   rw [tb.2]
                   repeat (first | rw [if_pos (by omega)] | rw [if_neg (by omega)])
                 show zRg b n0 σ0 (if ¬ (zTt b n0 (znx b n0 A.q) = 3 ∧ zTab 2 (w - 3) ≤ zTs b n0 (znx b n0 A.q) ∧ zTs b n0 (znx b n0 A.q) ≤ zTab 1 (w - 3)) then .inl (znf b n0 (znx b n0 A.q), znx b n0 A.q) else .inr (zAm (znx b n0 (znx b n0 A.q)) (zs A.D 7 (9 * k + (w - 3)) (zTs b n0 (znx b n0 A.q))) A.nm A.sn (A.td ||| 2 ^ min w 12) A.op A.mk)) _
                 rw [tb2, tb1]
                 rcases hTk with ⟨hc, ea, hk8⟩ | ⟨hc, hF⟩
                 · rw [if_neg (fun y => y hc)]
                   refine ⟨?_, (hA2.m7 (j := 9 * k + (w - 3)) (v := zTs b n0 (znx b n0 A.q)) ⟨by have := hc.2.1; omega, by have := hc.2.2; omega⟩).tok (znx_r (znx_r hq).2).2⟩
                   rw [ea]
                   have g := (zRrK.nx hE hk8).putD (r := 7) (j := 9 * k + (w - 3)) (v := zTs b n0 (znx b n0 A.q)) hG (by decide) (by decide) (by decide) (by show 9 * k + (w - 3) < 108; omega)
                   unfold zRr
                   rw [show zN (zAm (znx b n0 (znx b n0 A.q)) (zs A.D 7 (9 * k + (w - 3)) (zTs b n0 (znx b n0 A.q))) A.nm A.sn (A.td ||| 2 ^ min w 12) A.op A.mk).D = zN A.D from zN_zs (by decide)]
                   exact g
                 · rw [if_pos hc]
                   exact hF.drf (by omega))
              | (refine g_retV (by decide +kernel) rfl ⟨by decide, by decide⟩ ?_
                 show zRg _ _ _ _ _
                 rw [zpK_g hw w3 ok, if_pos (by omega)]
                 unfold zpM
                 rw [if_neg (by omega)]
                 have tb := zTab_m (w - 3) (by omega) (by omega) (by omega)
                 have tb2 : zTab 2 (w - 3) = 1 := by
                   rw [tb.1]
                   first | rw [if_pos (by omega)] | rw [if_neg (by omega)]
                 have tb1 : zTab 1 (w - 3) = 9 := by
                   rw [tb.2]
                   repeat (first | rw [if_pos (by omega)] | rw [if_neg (by omega)])
                 show zRg b n0 σ0 (if ¬ (zTt b n0 (znx b n0 A.q) = 3 ∧ zTab 2 (w - 3) ≤ zTs b n0 (znx b n0 A.q) ∧ zTs b n0 (znx b n0 A.q) ≤ zTab 1 (w - 3)) then .inl (znf b n0 (znx b n0 A.q), znx b n0 A.q) else .inr (zAm (znx b n0 (znx b n0 A.q)) (zs A.D 7 (9 * k + (w - 3)) (zTs b n0 (znx b n0 A.q))) A.nm A.sn (A.td ||| 2 ^ min w 12) A.op A.mk)) _
                 rw [tb2, tb1]
                 rcases hTk with ⟨hc, ea, hk8⟩ | ⟨hc, hF⟩
                 · rw [if_neg (fun y => y hc)]
                   refine ⟨?_, (hA2.m7 (j := 9 * k + (w - 3)) (v := zTs b n0 (znx b n0 A.q)) ⟨by have := hc.2.1; omega, by have := hc.2.2; omega⟩).tok (znx_r (znx_r hq).2).2⟩
                   rw [ea]
                   have g := (zRrK.nx hE hk8).putD (r := 7) (j := 9 * k + (w - 3)) (v := zTs b n0 (znx b n0 A.q)) hG (by decide) (by decide) (by decide) (by show 9 * k + (w - 3) < 108; omega)
                   unfold zRr
                   rw [show zN (zAm (znx b n0 (znx b n0 A.q)) (zs A.D 7 (9 * k + (w - 3)) (zTs b n0 (znx b n0 A.q))) A.nm A.sn (A.td ||| 2 ^ min w 12) A.op A.mk).D = zN A.D from zN_zs (by decide)]
                   exact g
                 · rw [if_pos hc]
                   exact hF.drf (by omega))
              | (refine g_retV (by decide +kernel) rfl ⟨by decide, by decide⟩ ?_
                 show zRg _ _ _ _ _
                 rw [zpK_g hw w3 ok, if_pos (by omega)]
                 unfold zpM
                 rw [if_neg (by omega)]
                 have tb := zTab_m (w - 3) (by omega) (by omega) (by omega)
                 have tb2 : zTab 2 (w - 3) = 1 := by
                   rw [tb.1]
                   first | rw [if_pos (by omega)] | rw [if_neg (by omega)]
                 have tb1 : zTab 1 (w - 3) = 999 := by
                   rw [tb.2]
                   repeat (first | rw [if_pos (by omega)] | rw [if_neg (by omega)])
                 show zRg b n0 σ0 (if ¬ (zTt b n0 (znx b n0 A.q) = 3 ∧ zTab 2 (w - 3) ≤ zTs b n0 (znx b n0 A.q) ∧ zTs b n0 (znx b n0 A.q) ≤ zTab 1 (w - 3)) then .inl (znf b n0 (znx b n0 A.q), znx b n0 A.q) else .inr (zAm (znx b n0 (znx b n0 A.q)) (zs A.D 7 (9 * k + (w - 3)) (zTs b n0 (znx b n0 A.q))) A.nm A.sn (A.td ||| 2 ^ min w 12) A.op A.mk)) _
                 rw [tb2, tb1]
                 rcases hTk with ⟨hc, ea, hk8⟩ | ⟨hc, hF⟩
                 · rw [if_neg (fun y => y hc)]
                   refine ⟨?_, (hA2.m7 (j := 9 * k + (w - 3)) (v := zTs b n0 (znx b n0 A.q)) ⟨by have := hc.2.1; omega, by have := hc.2.2; omega⟩).tok (znx_r (znx_r hq).2).2⟩
                   rw [ea]
                   have g := (zRrK.nx hE hk8).putD (r := 7) (j := 9 * k + (w - 3)) (v := zTs b n0 (znx b n0 A.q)) hG (by decide) (by decide) (by decide) (by show 9 * k + (w - 3) < 108; omega)
                   unfold zRr
                   rw [show zN (zAm (znx b n0 (znx b n0 A.q)) (zs A.D 7 (9 * k + (w - 3)) (zTs b n0 (znx b n0 A.q))) A.nm A.sn (A.td ||| 2 ^ min w 12) A.op A.mk).D = zN A.D from zN_zs (by decide)]
                   exact g
                 · rw [if_pos hc]
                   exact hF.drf (by omega))
              | (refine g_retV (by decide +kernel) rfl ⟨by decide, by decide⟩ ?_
                 show zRg _ _ _ _ _
                 rw [zpK_g hw w3 ok, if_pos (by omega)]
                 unfold zpM
                 rw [if_neg (by omega)]
                 have tb := zTab_m (w - 3) (by omega) (by omega) (by omega)
                 have tb2 : zTab 2 (w - 3) = 0 := by
                   rw [tb.1]
                   first | rw [if_pos (by omega)] | rw [if_neg (by omega)]
                 have tb1 : zTab 1 (w - 3) = 9 := by
                   rw [tb.2]
                   repeat (first | rw [if_pos (by omega)] | rw [if_neg (by omega)])
                 show zRg b n0 σ0 (if ¬ (zTt b n0 (znx b n0 A.q) = 3 ∧ zTab 2 (w - 3) ≤ zTs b n0 (znx b n0 A.q) ∧ zTs b n0 (znx b n0 A.q) ≤ zTab 1 (w - 3)) then .inl (znf b n0 (znx b n0 A.q), znx b n0 A.q) else .inr (zAm (znx b n0 (znx b n0 A.q)) (zs A.D 7 (9 * k + (w - 3)) (zTs b n0 (znx b n0 A.q))) A.nm A.sn (A.td ||| 2 ^ min w 12) A.op A.mk)) _
                 rw [tb2, tb1]
                 rcases hTk with ⟨hc, ea, hk8⟩ | ⟨hc, hF⟩
                 · rw [if_neg (fun y => y hc)]
                   refine ⟨?_, (hA2.m7 (j := 9 * k + (w - 3)) (v := zTs b n0 (znx b n0 A.q)) ⟨by have := hc.2.1; omega, by have := hc.2.2; omega⟩).tok (znx_r (znx_r hq).2).2⟩
                   rw [ea]
                   have g := (zRrK.nx hE hk8).putD (r := 7) (j := 9 * k + (w - 3)) (v := zTs b n0 (znx b n0 A.q)) hG (by decide) (by decide) (by decide) (by show 9 * k + (w - 3) < 108; omega)
                   unfold zRr
                   rw [show zN (zAm (znx b n0 (znx b n0 A.q)) (zs A.D 7 (9 * k + (w - 3)) (zTs b n0 (znx b n0 A.q))) A.nm A.sn (A.td ||| 2 ^ min w 12) A.op A.mk).D = zN A.D from zN_zs (by decide)]
                   exact g
                 · rw [if_pos hc]
                   exact hF.drf (by omega))
              | (refine g_retV (by decide +kernel) rfl ⟨by decide, by decide⟩ ?_
                 show zRg _ _ _ _ _
                 rw [zpK_g hw w3 ok, if_pos (by omega)]
                 unfold zpM
                 rw [if_neg (by omega)]
                 have tb := zTab_m (w - 3) (by omega) (by omega) (by omega)
                 have tb2 : zTab 2 (w - 3) = 0 := by
                   rw [tb.1]
                   first | rw [if_pos (by omega)] | rw [if_neg (by omega)]
                 have tb1 : zTab 1 (w - 3) = 20 := by
                   rw [tb.2]
                   repeat (first | rw [if_pos (by omega)] | rw [if_neg (by omega)])
                 show zRg b n0 σ0 (if ¬ (zTt b n0 (znx b n0 A.q) = 3 ∧ zTab 2 (w - 3) ≤ zTs b n0 (znx b n0 A.q) ∧ zTs b n0 (znx b n0 A.q) ≤ zTab 1 (w - 3)) then .inl (znf b n0 (znx b n0 A.q), znx b n0 A.q) else .inr (zAm (znx b n0 (znx b n0 A.q)) (zs A.D 7 (9 * k + (w - 3)) (zTs b n0 (znx b n0 A.q))) A.nm A.sn (A.td ||| 2 ^ min w 12) A.op A.mk)) _
                 rw [tb2, tb1]
                 rcases hTk with ⟨hc, ea, hk8⟩ | ⟨hc, hF⟩
                 · rw [if_neg (fun y => y hc)]
                   refine ⟨?_, (hA2.m7 (j := 9 * k + (w - 3)) (v := zTs b n0 (znx b n0 A.q)) ⟨by have := hc.2.1; omega, by have := hc.2.2; omega⟩).tok (znx_r (znx_r hq).2).2⟩
                   rw [ea]
                   have g := (zRrK.nx hE hk8).putD (r := 7) (j := 9 * k + (w - 3)) (v := zTs b n0 (znx b n0 A.q)) hG (by decide) (by decide) (by decide) (by show 9 * k + (w - 3) < 108; omega)
                   unfold zRr
                   rw [show zN (zAm (znx b n0 (znx b n0 A.q)) (zs A.D 7 (9 * k + (w - 3)) (zTs b n0 (znx b n0 A.q))) A.nm A.sn (A.td ||| 2 ^ min w 12) A.op A.mk).D = zN A.D from zN_zs (by decide)]
                   exact g
                 · rw [if_pos hc]
                   exact hF.drf (by omega))
              | (refine g_retV (by decide +kernel) rfl ⟨by decide, by decide⟩ ?_
                 show zRg _ _ _ _ _
                 rw [zpK_g hw w3 ok, if_pos (by omega)]
                 unfold zpM
                 rw [if_pos (by omega)]
                 refine ⟨?_, hA2.m7 (by decide)⟩
                 have g := zRrK.putD (r := 7) (j := 9 * k + (w - 3)) (v := 1) hE hG (by decide) (by decide) (by decide) (by show 9 * k + (w - 3) < 108; omega)
                 unfold zRr
                 rw [show zN (zAm (znx b n0 A.q) (zs A.D 7 (9 * k + (w - 3)) 1) A.nm A.sn (A.td ||| 2 ^ min w 12) A.op A.mk).D = zN A.D from zN_zs (by decide)]
                 exact g)
          · refine g_bipush (a := 9) (by decide +kernel) (by decide) ?_
            refine g_goto (off := 6) (tgt := 189) (by decide +kernel) (by decide) ?_
            refine g_cVI (st := _) (c_Md_takesNumber (q := znx b n0 A.q) hn h0 hn0 hE.1 (znx_r hq).2 ⟨by decide, by decide⟩ ⟨by decide, by decide⟩) k_Md_takesNumber l_Md_253 (by decide +kernel) (by omega) rfl rfl rfl rfl (Nat.le_of_ble_eq_true rfl) (by decide) ⟨by decide, by decide⟩ ?_
            rintro a9 τ9 hTk
            refine g_iast (j := (1784 + (9 * k + (w - 3)))) (by decide +kernel) (by omega) rfl (by omega) (by omega) (by decide) ?_
            refine g_goto (off := 46) (tgt := 239) (by decide +kernel) (by decide) ?_
            first
              | (refine g_retV (by decide +kernel) rfl ⟨by decide, by decide⟩ ?_
                 show zRg _ _ _ _ _
                 rw [zpK_g hw w3 ok, if_neg (by omega)]
                 exact hS9)
              | (refine g_retV (by decide +kernel) rfl ⟨by decide, by decide⟩ ?_
                 show zRg _ _ _ _ _
                 rw [zpK_g hw w3 ok, if_pos (by omega)]
                 unfold zpM
                 rw [if_neg (by omega)]
                 have tb := zTab_m (w - 3) (by omega) (by omega) (by omega)
                 have tb2 : zTab 2 (w - 3) = 1 := by
                   rw [tb.1]
                   first | rw [if_pos (by omega)] | rw [if_neg (by omega)]
                 have tb1 : zTab 1 (w - 3) = 4 := by
                   rw [tb.2]
                   repeat (first | rw [if_pos (by omega)] | rw [if_neg (by omega)])
                 show zRg b n0 σ0 (if ¬ (zTt b n0 (znx b n0 A.q) = 3 ∧ zTab 2 (w - 3) ≤ zTs b n0 (znx b n0 A.q) ∧ zTs b n0 (znx b n0 A.q) ≤ zTab 1 (w - 3)) then .inl (znf b n0 (znx b n0 A.q), znx b n0 A.q) else .inr (zAm (znx b n0 (znx b n0 A.q)) (zs A.D 7 (9 * k + (w - 3)) (zTs b n0 (znx b n0 A.q))) A.nm A.sn (A.td ||| 2 ^ min w 12) A.op A.mk)) _
                 rw [tb2, tb1]
                 rcases hTk with ⟨hc, ea, hk8⟩ | ⟨hc, hF⟩
                 · rw [if_neg (fun y => y hc)]
                   refine ⟨?_, (hA2.m7 (j := 9 * k + (w - 3)) (v := zTs b n0 (znx b n0 A.q)) ⟨by have := hc.2.1; omega, by have := hc.2.2; omega⟩).tok (znx_r (znx_r hq).2).2⟩
                   rw [ea]
                   have g := (zRrK.nx hE hk8).putD (r := 7) (j := 9 * k + (w - 3)) (v := zTs b n0 (znx b n0 A.q)) hG (by decide) (by decide) (by decide) (by show 9 * k + (w - 3) < 108; omega)
                   unfold zRr
                   rw [show zN (zAm (znx b n0 (znx b n0 A.q)) (zs A.D 7 (9 * k + (w - 3)) (zTs b n0 (znx b n0 A.q))) A.nm A.sn (A.td ||| 2 ^ min w 12) A.op A.mk).D = zN A.D from zN_zs (by decide)]
                   exact g
                 · rw [if_pos hc]
                   exact hF.drf (by omega))
              | (refine g_retV (by decide +kernel) rfl ⟨by decide, by decide⟩ ?_
                 show zRg _ _ _ _ _
                 rw [zpK_g hw w3 ok, if_pos (by omega)]
                 unfold zpM
                 rw [if_neg (by omega)]
                 have tb := zTab_m (w - 3) (by omega) (by omega) (by omega)
                 have tb2 : zTab 2 (w - 3) = 1 := by
                   rw [tb.1]
                   first | rw [if_pos (by omega)] | rw [if_neg (by omega)]
                 have tb1 : zTab 1 (w - 3) = 9 := by
                   rw [tb.2]
                   repeat (first | rw [if_pos (by omega)] | rw [if_neg (by omega)])
                 show zRg b n0 σ0 (if ¬ (zTt b n0 (znx b n0 A.q) = 3 ∧ zTab 2 (w - 3) ≤ zTs b n0 (znx b n0 A.q) ∧ zTs b n0 (znx b n0 A.q) ≤ zTab 1 (w - 3)) then .inl (znf b n0 (znx b n0 A.q), znx b n0 A.q) else .inr (zAm (znx b n0 (znx b n0 A.q)) (zs A.D 7 (9 * k + (w - 3)) (zTs b n0 (znx b n0 A.q))) A.nm A.sn (A.td ||| 2 ^ min w 12) A.op A.mk)) _
                 rw [tb2, tb1]
                 rcases hTk with ⟨hc, ea, hk8⟩ | ⟨hc, hF⟩
                 · rw [if_neg (fun y => y hc)]
                   refine ⟨?_, (hA2.m7 (j := 9 * k + (w - 3)) (v := zTs b n0 (znx b n0 A.q)) ⟨by have := hc.2.1; omega, by have := hc.2.2; omega⟩).tok (znx_r (znx_r hq).2).2⟩
                   rw [ea]
                   have g := (zRrK.nx hE hk8).putD (r := 7) (j := 9 * k + (w - 3)) (v := zTs b n0 (znx b n0 A.q)) hG (by decide) (by decide) (by decide) (by show 9 * k + (w - 3) < 108; omega)
                   unfold zRr
                   rw [show zN (zAm (znx b n0 (znx b n0 A.q)) (zs A.D 7 (9 * k + (w - 3)) (zTs b n0 (znx b n0 A.q))) A.nm A.sn (A.td ||| 2 ^ min w 12) A.op A.mk).D = zN A.D from zN_zs (by decide)]
                   exact g
                 · rw [if_pos hc]
                   exact hF.drf (by omega))
              | (refine g_retV (by decide +kernel) rfl ⟨by decide, by decide⟩ ?_
                 show zRg _ _ _ _ _
                 rw [zpK_g hw w3 ok, if_pos (by omega)]
                 unfold zpM
                 rw [if_neg (by omega)]
                 have tb := zTab_m (w - 3) (by omega) (by omega) (by omega)
                 have tb2 : zTab 2 (w - 3) = 1 := by
                   rw [tb.1]
                   first | rw [if_pos (by omega)] | rw [if_neg (by omega)]
                 have tb1 : zTab 1 (w - 3) = 999 := by
                   rw [tb.2]
                   repeat (first | rw [if_pos (by omega)] | rw [if_neg (by omega)])
                 show zRg b n0 σ0 (if ¬ (zTt b n0 (znx b n0 A.q) = 3 ∧ zTab 2 (w - 3) ≤ zTs b n0 (znx b n0 A.q) ∧ zTs b n0 (znx b n0 A.q) ≤ zTab 1 (w - 3)) then .inl (znf b n0 (znx b n0 A.q), znx b n0 A.q) else .inr (zAm (znx b n0 (znx b n0 A.q)) (zs A.D 7 (9 * k + (w - 3)) (zTs b n0 (znx b n0 A.q))) A.nm A.sn (A.td ||| 2 ^ min w 12) A.op A.mk)) _
                 rw [tb2, tb1]
                 rcases hTk with ⟨hc, ea, hk8⟩ | ⟨hc, hF⟩
                 · rw [if_neg (fun y => y hc)]
                   refine ⟨?_, (hA2.m7 (j := 9 * k + (w - 3)) (v := zTs b n0 (znx b n0 A.q)) ⟨by have := hc.2.1; omega, by have := hc.2.2; omega⟩).tok (znx_r (znx_r hq).2).2⟩
                   rw [ea]
                   have g := (zRrK.nx hE hk8).putD (r := 7) (j := 9 * k + (w - 3)) (v := zTs b n0 (znx b n0 A.q)) hG (by decide) (by decide) (by decide) (by show 9 * k + (w - 3) < 108; omega)
                   unfold zRr
                   rw [show zN (zAm (znx b n0 (znx b n0 A.q)) (zs A.D 7 (9 * k + (w - 3)) (zTs b n0 (znx b n0 A.q))) A.nm A.sn (A.td ||| 2 ^ min w 12) A.op A.mk).D = zN A.D from zN_zs (by decide)]
                   exact g
                 · rw [if_pos hc]
                   exact hF.drf (by omega))
              | (refine g_retV (by decide +kernel) rfl ⟨by decide, by decide⟩ ?_
                 show zRg _ _ _ _ _
                 rw [zpK_g hw w3 ok, if_pos (by omega)]
                 unfold zpM
                 rw [if_neg (by omega)]
                 have tb := zTab_m (w - 3) (by omega) (by omega) (by omega)
                 have tb2 : zTab 2 (w - 3) = 0 := by
                   rw [tb.1]
                   first | rw [if_pos (by omega)] | rw [if_neg (by omega)]
                 have tb1 : zTab 1 (w - 3) = 9 := by
                   rw [tb.2]
                   repeat (first | rw [if_pos (by omega)] | rw [if_neg (by omega)])
                 show zRg b n0 σ0 (if ¬ (zTt b n0 (znx b n0 A.q) = 3 ∧ zTab 2 (w - 3) ≤ zTs b n0 (znx b n0 A.q) ∧ zTs b n0 (znx b n0 A.q) ≤ zTab 1 (w - 3)) then .inl (znf b n0 (znx b n0 A.q), znx b n0 A.q) else .inr (zAm (znx b n0 (znx b n0 A.q)) (zs A.D 7 (9 * k + (w - 3)) (zTs b n0 (znx b n0 A.q))) A.nm A.sn (A.td ||| 2 ^ min w 12) A.op A.mk)) _
                 rw [tb2, tb1]
                 rcases hTk with ⟨hc, ea, hk8⟩ | ⟨hc, hF⟩
                 · rw [if_neg (fun y => y hc)]
                   refine ⟨?_, (hA2.m7 (j := 9 * k + (w - 3)) (v := zTs b n0 (znx b n0 A.q)) ⟨by have := hc.2.1; omega, by have := hc.2.2; omega⟩).tok (znx_r (znx_r hq).2).2⟩
                   rw [ea]
                   have g := (zRrK.nx hE hk8).putD (r := 7) (j := 9 * k + (w - 3)) (v := zTs b n0 (znx b n0 A.q)) hG (by decide) (by decide) (by decide) (by show 9 * k + (w - 3) < 108; omega)
                   unfold zRr
                   rw [show zN (zAm (znx b n0 (znx b n0 A.q)) (zs A.D 7 (9 * k + (w - 3)) (zTs b n0 (znx b n0 A.q))) A.nm A.sn (A.td ||| 2 ^ min w 12) A.op A.mk).D = zN A.D from zN_zs (by decide)]
                   exact g
                 · rw [if_pos hc]
                   exact hF.drf (by omega))
              | (refine g_retV (by decide +kernel) rfl ⟨by decide, by decide⟩ ?_
                 show zRg _ _ _ _ _
                 rw [zpK_g hw w3 ok, if_pos (by omega)]
                 unfold zpM
                 rw [if_neg (by omega)]
                 have tb := zTab_m (w - 3) (by omega) (by omega) (by omega)
                 have tb2 : zTab 2 (w - 3) = 0 := by
                   rw [tb.1]
                   first | rw [if_pos (by omega)] | rw [if_neg (by omega)]
                 have tb1 : zTab 1 (w - 3) = 20 := by
                   rw [tb.2]
                   repeat (first | rw [if_pos (by omega)] | rw [if_neg (by omega)])
                 show zRg b n0 σ0 (if ¬ (zTt b n0 (znx b n0 A.q) = 3 ∧ zTab 2 (w - 3) ≤ zTs b n0 (znx b n0 A.q) ∧ zTs b n0 (znx b n0 A.q) ≤ zTab 1 (w - 3)) then .inl (znf b n0 (znx b n0 A.q), znx b n0 A.q) else .inr (zAm (znx b n0 (znx b n0 A.q)) (zs A.D 7 (9 * k + (w - 3)) (zTs b n0 (znx b n0 A.q))) A.nm A.sn (A.td ||| 2 ^ min w 12) A.op A.mk)) _
                 rw [tb2, tb1]
                 rcases hTk with ⟨hc, ea, hk8⟩ | ⟨hc, hF⟩
                 · rw [if_neg (fun y => y hc)]
                   refine ⟨?_, (hA2.m7 (j := 9 * k + (w - 3)) (v := zTs b n0 (znx b n0 A.q)) ⟨by have := hc.2.1; omega, by have := hc.2.2; omega⟩).tok (znx_r (znx_r hq).2).2⟩
                   rw [ea]
                   have g := (zRrK.nx hE hk8).putD (r := 7) (j := 9 * k + (w - 3)) (v := zTs b n0 (znx b n0 A.q)) hG (by decide) (by decide) (by decide) (by show 9 * k + (w - 3) < 108; omega)
                   unfold zRr
                   rw [show zN (zAm (znx b n0 (znx b n0 A.q)) (zs A.D 7 (9 * k + (w - 3)) (zTs b n0 (znx b n0 A.q))) A.nm A.sn (A.td ||| 2 ^ min w 12) A.op A.mk).D = zN A.D from zN_zs (by decide)]
                   exact g
                 · rw [if_pos hc]
                   exact hF.drf (by omega))
              | (refine g_retV (by decide +kernel) rfl ⟨by decide, by decide⟩ ?_
                 show zRg _ _ _ _ _
                 rw [zpK_g hw w3 ok, if_pos (by omega)]
                 unfold zpM
                 rw [if_pos (by omega)]
                 refine ⟨?_, hA2.m7 (by decide)⟩
                 have g := zRrK.putD (r := 7) (j := 9 * k + (w - 3)) (v := 1) hE hG (by decide) (by decide) (by decide) (by show 9 * k + (w - 3) < 108; omega)
                 unfold zRr
                 rw [show zN (zAm (znx b n0 A.q) (zs A.D 7 (9 * k + (w - 3)) 1) A.nm A.sn (A.td ||| 2 ^ min w 12) A.op A.mk).D = zN A.D from zN_zs (by decide)]
                 exact g)
        · refine g_iconst (a := 4) (by decide +kernel) ?_
          refine g_goto (off := 16) (tgt := 189) (by decide +kernel) (by decide) ?_
          refine g_cVI (st := _) (c_Md_takesNumber (q := znx b n0 A.q) hn h0 hn0 hE.1 (znx_r hq).2 ⟨by decide, by decide⟩ ⟨by decide, by decide⟩) k_Md_takesNumber l_Md_253 (by decide +kernel) (by omega) rfl rfl rfl rfl (Nat.le_of_ble_eq_true rfl) (by decide) ⟨by decide, by decide⟩ ?_
          rintro a9 τ9 hTk
          refine g_iast (j := (1784 + (9 * k + (w - 3)))) (by decide +kernel) (by omega) rfl (by omega) (by omega) (by decide) ?_
          refine g_goto (off := 46) (tgt := 239) (by decide +kernel) (by decide) ?_
          first
            | (refine g_retV (by decide +kernel) rfl ⟨by decide, by decide⟩ ?_
               show zRg _ _ _ _ _
               rw [zpK_g hw w3 ok, if_neg (by omega)]
               exact hS9)
            | (refine g_retV (by decide +kernel) rfl ⟨by decide, by decide⟩ ?_
               show zRg _ _ _ _ _
               rw [zpK_g hw w3 ok, if_pos (by omega)]
               unfold zpM
               rw [if_neg (by omega)]
               have tb := zTab_m (w - 3) (by omega) (by omega) (by omega)
               have tb2 : zTab 2 (w - 3) = 1 := by
                 rw [tb.1]
                 first | rw [if_pos (by omega)] | rw [if_neg (by omega)]
               have tb1 : zTab 1 (w - 3) = 4 := by
                 rw [tb.2]
                 repeat (first | rw [if_pos (by omega)] | rw [if_neg (by omega)])
               show zRg b n0 σ0 (if ¬ (zTt b n0 (znx b n0 A.q) = 3 ∧ zTab 2 (w - 3) ≤ zTs b n0 (znx b n0 A.q) ∧ zTs b n0 (znx b n0 A.q) ≤ zTab 1 (w - 3)) then .inl (znf b n0 (znx b n0 A.q), znx b n0 A.q) else .inr (zAm (znx b n0 (znx b n0 A.q)) (zs A.D 7 (9 * k + (w - 3)) (zTs b n0 (znx b n0 A.q))) A.nm A.sn (A.td ||| 2 ^ min w 12) A.op A.mk)) _
               rw [tb2, tb1]
               rcases hTk with ⟨hc, ea, hk8⟩ | ⟨hc, hF⟩
               · rw [if_neg (fun y => y hc)]
                 refine ⟨?_, (hA2.m7 (j := 9 * k + (w - 3)) (v := zTs b n0 (znx b n0 A.q)) ⟨by have := hc.2.1; omega, by have := hc.2.2; omega⟩).tok (znx_r (znx_r hq).2).2⟩
                 rw [ea]
                 have g := (zRrK.nx hE hk8).putD (r := 7) (j := 9 * k + (w - 3)) (v := zTs b n0 (znx b n0 A.q)) hG (by decide) (by decide) (by decide) (by show 9 * k + (w - 3) < 108; omega)
                 unfold zRr
                 rw [show zN (zAm (znx b n0 (znx b n0 A.q)) (zs A.D 7 (9 * k + (w - 3)) (zTs b n0 (znx b n0 A.q))) A.nm A.sn (A.td ||| 2 ^ min w 12) A.op A.mk).D = zN A.D from zN_zs (by decide)]
                 exact g
               · rw [if_pos hc]
                 exact hF.drf (by omega))
            | (refine g_retV (by decide +kernel) rfl ⟨by decide, by decide⟩ ?_
               show zRg _ _ _ _ _
               rw [zpK_g hw w3 ok, if_pos (by omega)]
               unfold zpM
               rw [if_neg (by omega)]
               have tb := zTab_m (w - 3) (by omega) (by omega) (by omega)
               have tb2 : zTab 2 (w - 3) = 1 := by
                 rw [tb.1]
                 first | rw [if_pos (by omega)] | rw [if_neg (by omega)]
               have tb1 : zTab 1 (w - 3) = 9 := by
                 rw [tb.2]
                 repeat (first | rw [if_pos (by omega)] | rw [if_neg (by omega)])
               show zRg b n0 σ0 (if ¬ (zTt b n0 (znx b n0 A.q) = 3 ∧ zTab 2 (w - 3) ≤ zTs b n0 (znx b n0 A.q) ∧ zTs b n0 (znx b n0 A.q) ≤ zTab 1 (w - 3)) then .inl (znf b n0 (znx b n0 A.q), znx b n0 A.q) else .inr (zAm (znx b n0 (znx b n0 A.q)) (zs A.D 7 (9 * k + (w - 3)) (zTs b n0 (znx b n0 A.q))) A.nm A.sn (A.td ||| 2 ^ min w 12) A.op A.mk)) _
               rw [tb2, tb1]
               rcases hTk with ⟨hc, ea, hk8⟩ | ⟨hc, hF⟩
               · rw [if_neg (fun y => y hc)]
                 refine ⟨?_, (hA2.m7 (j := 9 * k + (w - 3)) (v := zTs b n0 (znx b n0 A.q)) ⟨by have := hc.2.1; omega, by have := hc.2.2; omega⟩).tok (znx_r (znx_r hq).2).2⟩
                 rw [ea]
                 have g := (zRrK.nx hE hk8).putD (r := 7) (j := 9 * k + (w - 3)) (v := zTs b n0 (znx b n0 A.q)) hG (by decide) (by decide) (by decide) (by show 9 * k + (w - 3) < 108; omega)
                 unfold zRr
                 rw [show zN (zAm (znx b n0 (znx b n0 A.q)) (zs A.D 7 (9 * k + (w - 3)) (zTs b n0 (znx b n0 A.q))) A.nm A.sn (A.td ||| 2 ^ min w 12) A.op A.mk).D = zN A.D from zN_zs (by decide)]
                 exact g
               · rw [if_pos hc]
                 exact hF.drf (by omega))
            | (refine g_retV (by decide +kernel) rfl ⟨by decide, by decide⟩ ?_
               show zRg _ _ _ _ _
               rw [zpK_g hw w3 ok, if_pos (by omega)]
               unfold zpM
               rw [if_neg (by omega)]
               have tb := zTab_m (w - 3) (by omega) (by omega) (by omega)
               have tb2 : zTab 2 (w - 3) = 1 := by
                 rw [tb.1]
                 first | rw [if_pos (by omega)] | rw [if_neg (by omega)]
               have tb1 : zTab 1 (w - 3) = 999 := by
                 rw [tb.2]
                 repeat (first | rw [if_pos (by omega)] | rw [if_neg (by omega)])
               show zRg b n0 σ0 (if ¬ (zTt b n0 (znx b n0 A.q) = 3 ∧ zTab 2 (w - 3) ≤ zTs b n0 (znx b n0 A.q) ∧ zTs b n0 (znx b n0 A.q) ≤ zTab 1 (w - 3)) then .inl (znf b n0 (znx b n0 A.q), znx b n0 A.q) else .inr (zAm (znx b n0 (znx b n0 A.q)) (zs A.D 7 (9 * k + (w - 3)) (zTs b n0 (znx b n0 A.q))) A.nm A.sn (A.td ||| 2 ^ min w 12) A.op A.mk)) _
               rw [tb2, tb1]
               rcases hTk with ⟨hc, ea, hk8⟩ | ⟨hc, hF⟩
               · rw [if_neg (fun y => y hc)]
                 refine ⟨?_, (hA2.m7 (j := 9 * k + (w - 3)) (v := zTs b n0 (znx b n0 A.q)) ⟨by have := hc.2.1; omega, by have := hc.2.2; omega⟩).tok (znx_r (znx_r hq).2).2⟩
                 rw [ea]
                 have g := (zRrK.nx hE hk8).putD (r := 7) (j := 9 * k + (w - 3)) (v := zTs b n0 (znx b n0 A.q)) hG (by decide) (by decide) (by decide) (by show 9 * k + (w - 3) < 108; omega)
                 unfold zRr
                 rw [show zN (zAm (znx b n0 (znx b n0 A.q)) (zs A.D 7 (9 * k + (w - 3)) (zTs b n0 (znx b n0 A.q))) A.nm A.sn (A.td ||| 2 ^ min w 12) A.op A.mk).D = zN A.D from zN_zs (by decide)]
                 exact g
               · rw [if_pos hc]
                 exact hF.drf (by omega))
            | (refine g_retV (by decide +kernel) rfl ⟨by decide, by decide⟩ ?_
               show zRg _ _ _ _ _
               rw [zpK_g hw w3 ok, if_pos (by omega)]
               unfold zpM
               rw [if_neg (by omega)]
               have tb := zTab_m (w - 3) (by omega) (by omega) (by omega)
               have tb2 : zTab 2 (w - 3) = 0 := by
                 rw [tb.1]
                 first | rw [if_pos (by omega)] | rw [if_neg (by omega)]
               have tb1 : zTab 1 (w - 3) = 9 := by
                 rw [tb.2]
                 repeat (first | rw [if_pos (by omega)] | rw [if_neg (by omega)])
               show zRg b n0 σ0 (if ¬ (zTt b n0 (znx b n0 A.q) = 3 ∧ zTab 2 (w - 3) ≤ zTs b n0 (znx b n0 A.q) ∧ zTs b n0 (znx b n0 A.q) ≤ zTab 1 (w - 3)) then .inl (znf b n0 (znx b n0 A.q), znx b n0 A.q) else .inr (zAm (znx b n0 (znx b n0 A.q)) (zs A.D 7 (9 * k + (w - 3)) (zTs b n0 (znx b n0 A.q))) A.nm A.sn (A.td ||| 2 ^ min w 12) A.op A.mk)) _
               rw [tb2, tb1]
               rcases hTk with ⟨hc, ea, hk8⟩ | ⟨hc, hF⟩
               · rw [if_neg (fun y => y hc)]
                 refine ⟨?_, (hA2.m7 (j := 9 * k + (w - 3)) (v := zTs b n0 (znx b n0 A.q)) ⟨by have := hc.2.1; omega, by have := hc.2.2; omega⟩).tok (znx_r (znx_r hq).2).2⟩
                 rw [ea]
                 have g := (zRrK.nx hE hk8).putD (r := 7) (j := 9 * k + (w - 3)) (v := zTs b n0 (znx b n0 A.q)) hG (by decide) (by decide) (by decide) (by show 9 * k + (w - 3) < 108; omega)
                 unfold zRr
                 rw [show zN (zAm (znx b n0 (znx b n0 A.q)) (zs A.D 7 (9 * k + (w - 3)) (zTs b n0 (znx b n0 A.q))) A.nm A.sn (A.td ||| 2 ^ min w 12) A.op A.mk).D = zN A.D from zN_zs (by decide)]
                 exact g
               · rw [if_pos hc]
                 exact hF.drf (by omega))
            | (refine g_retV (by decide +kernel) rfl ⟨by decide, by decide⟩ ?_
               show zRg _ _ _ _ _
               rw [zpK_g hw w3 ok, if_pos (by omega)]
               unfold zpM
               rw [if_neg (by omega)]
               have tb := zTab_m (w - 3) (by omega) (by omega) (by omega)
               have tb2 : zTab 2 (w - 3) = 0 := by
                 rw [tb.1]
                 first | rw [if_pos (by omega)] | rw [if_neg (by omega)]
               have tb1 : zTab 1 (w - 3) = 20 := by
                 rw [tb.2]
                 repeat (first | rw [if_pos (by omega)] | rw [if_neg (by omega)])
               show zRg b n0 σ0 (if ¬ (zTt b n0 (znx b n0 A.q) = 3 ∧ zTab 2 (w - 3) ≤ zTs b n0 (znx b n0 A.q) ∧ zTs b n0 (znx b n0 A.q) ≤ zTab 1 (w - 3)) then .inl (znf b n0 (znx b n0 A.q), znx b n0 A.q) else .inr (zAm (znx b n0 (znx b n0 A.q)) (zs A.D 7 (9 * k + (w - 3)) (zTs b n0 (znx b n0 A.q))) A.nm A.sn (A.td ||| 2 ^ min w 12) A.op A.mk)) _
               rw [tb2, tb1]
               rcases hTk with ⟨hc, ea, hk8⟩ | ⟨hc, hF⟩
               · rw [if_neg (fun y => y hc)]
                 refine ⟨?_, (hA2.m7 (j := 9 * k + (w - 3)) (v := zTs b n0 (znx b n0 A.q)) ⟨by have := hc.2.1; omega, by have := hc.2.2; omega⟩).tok (znx_r (znx_r hq).2).2⟩
                 rw [ea]
                 have g := (zRrK.nx hE hk8).putD (r := 7) (j := 9 * k + (w - 3)) (v := zTs b n0 (znx b n0 A.q)) hG (by decide) (by decide) (by decide) (by show 9 * k + (w - 3) < 108; omega)
                 unfold zRr
                 rw [show zN (zAm (znx b n0 (znx b n0 A.q)) (zs A.D 7 (9 * k + (w - 3)) (zTs b n0 (znx b n0 A.q))) A.nm A.sn (A.td ||| 2 ^ min w 12) A.op A.mk).D = zN A.D from zN_zs (by decide)]
                 exact g
               · rw [if_pos hc]
                 exact hF.drf (by omega))
            | (refine g_retV (by decide +kernel) rfl ⟨by decide, by decide⟩ ?_
               show zRg _ _ _ _ _
               rw [zpK_g hw w3 ok, if_pos (by omega)]
               unfold zpM
               rw [if_pos (by omega)]
               refine ⟨?_, hA2.m7 (by decide)⟩
               have g := zRrK.putD (r := 7) (j := 9 * k + (w - 3)) (v := 1) hE hG (by decide) (by decide) (by decide) (by show 9 * k + (w - 3) < 108; omega)
               unfold zRr
               rw [show zN (zAm (znx b n0 A.q) (zs A.D 7 (9 * k + (w - 3)) 1) A.nm A.sn (A.td ||| 2 ^ min w 12) A.op A.mk).D = zN A.D from zN_zs (by decide)]
               exact g)
    · refine g_aload_n (i := 0) (by decide +kernel) rfl ?_
      refine g_getr f_Md_7 (by decide +kernel) (by omega) rfl rfl ?_
      refine g_iload (i := 5) (by decide +kernel) rfl ?_
      refine g_iconst (a := 1) (by decide +kernel) ?_
      refine g_iast (j := (1784 + (9 * k + (w - 3)))) (by decide +kernel) (by omega) rfl (by omega) (by omega) (by decide) ?_
      refine g_goto (off := 89) (tgt := 239) (by decide +kernel) (by decide) ?_
      first
        | (refine g_retV (by decide +kernel) rfl ⟨by decide, by decide⟩ ?_
           show zRg _ _ _ _ _
           rw [zpK_g hw w3 ok, if_neg (by omega)]
           exact hS9)
        | (refine g_retV (by decide +kernel) rfl ⟨by decide, by decide⟩ ?_
           show zRg _ _ _ _ _
           rw [zpK_g hw w3 ok, if_pos (by omega)]
           unfold zpM
           rw [if_neg (by omega)]
           have tb := zTab_m (w - 3) (by omega) (by omega) (by omega)
           have tb2 : zTab 2 (w - 3) = 1 := by
             rw [tb.1]
             first | rw [if_pos (by omega)] | rw [if_neg (by omega)]
           have tb1 : zTab 1 (w - 3) = 4 := by
             rw [tb.2]
             repeat (first | rw [if_pos (by omega)] | rw [if_neg (by omega)])
           show zRg b n0 σ0 (if ¬ (zTt b n0 (znx b n0 A.q) = 3 ∧ zTab 2 (w - 3) ≤ zTs b n0 (znx b n0 A.q) ∧ zTs b n0 (znx b n0 A.q) ≤ zTab 1 (w - 3)) then .inl (znf b n0 (znx b n0 A.q), znx b n0 A.q) else .inr (zAm (znx b n0 (znx b n0 A.q)) (zs A.D 7 (9 * k + (w - 3)) (zTs b n0 (znx b n0 A.q))) A.nm A.sn (A.td ||| 2 ^ min w 12) A.op A.mk)) _
           rw [tb2, tb1]
           rcases hTk with ⟨hc, ea, hk8⟩ | ⟨hc, hF⟩
           · rw [if_neg (fun y => y hc)]
             refine ⟨?_, (hA2.m7 (j := 9 * k + (w - 3)) (v := zTs b n0 (znx b n0 A.q)) ⟨by have := hc.2.1; omega, by have := hc.2.2; omega⟩).tok (znx_r (znx_r hq).2).2⟩
             rw [ea]
             have g := (zRrK.nx hE hk8).putD (r := 7) (j := 9 * k + (w - 3)) (v := zTs b n0 (znx b n0 A.q)) hG (by decide) (by decide) (by decide) (by show 9 * k + (w - 3) < 108; omega)
             unfold zRr
             rw [show zN (zAm (znx b n0 (znx b n0 A.q)) (zs A.D 7 (9 * k + (w - 3)) (zTs b n0 (znx b n0 A.q))) A.nm A.sn (A.td ||| 2 ^ min w 12) A.op A.mk).D = zN A.D from zN_zs (by decide)]
             exact g
           · rw [if_pos hc]
             exact hF.drf (by omega))
        | (refine g_retV (by decide +kernel) rfl ⟨by decide, by decide⟩ ?_
           show zRg _ _ _ _ _
           rw [zpK_g hw w3 ok, if_pos (by omega)]
           unfold zpM
           rw [if_neg (by omega)]
           have tb := zTab_m (w - 3) (by omega) (by omega) (by omega)
           have tb2 : zTab 2 (w - 3) = 1 := by
             rw [tb.1]
             first | rw [if_pos (by omega)] | rw [if_neg (by omega)]
           have tb1 : zTab 1 (w - 3) = 9 := by
             rw [tb.2]
             repeat (first | rw [if_pos (by omega)] | rw [if_neg (by omega)])
           show zRg b n0 σ0 (if ¬ (zTt b n0 (znx b n0 A.q) = 3 ∧ zTab 2 (w - 3) ≤ zTs b n0 (znx b n0 A.q) ∧ zTs b n0 (znx b n0 A.q) ≤ zTab 1 (w - 3)) then .inl (znf b n0 (znx b n0 A.q), znx b n0 A.q) else .inr (zAm (znx b n0 (znx b n0 A.q)) (zs A.D 7 (9 * k + (w - 3)) (zTs b n0 (znx b n0 A.q))) A.nm A.sn (A.td ||| 2 ^ min w 12) A.op A.mk)) _
           rw [tb2, tb1]
           rcases hTk with ⟨hc, ea, hk8⟩ | ⟨hc, hF⟩
           · rw [if_neg (fun y => y hc)]
             refine ⟨?_, (hA2.m7 (j := 9 * k + (w - 3)) (v := zTs b n0 (znx b n0 A.q)) ⟨by have := hc.2.1; omega, by have := hc.2.2; omega⟩).tok (znx_r (znx_r hq).2).2⟩
             rw [ea]
             have g := (zRrK.nx hE hk8).putD (r := 7) (j := 9 * k + (w - 3)) (v := zTs b n0 (znx b n0 A.q)) hG (by decide) (by decide) (by decide) (by show 9 * k + (w - 3) < 108; omega)
             unfold zRr
             rw [show zN (zAm (znx b n0 (znx b n0 A.q)) (zs A.D 7 (9 * k + (w - 3)) (zTs b n0 (znx b n0 A.q))) A.nm A.sn (A.td ||| 2 ^ min w 12) A.op A.mk).D = zN A.D from zN_zs (by decide)]
             exact g
           · rw [if_pos hc]
             exact hF.drf (by omega))
        | (refine g_retV (by decide +kernel) rfl ⟨by decide, by decide⟩ ?_
           show zRg _ _ _ _ _
           rw [zpK_g hw w3 ok, if_pos (by omega)]
           unfold zpM
           rw [if_neg (by omega)]
           have tb := zTab_m (w - 3) (by omega) (by omega) (by omega)
           have tb2 : zTab 2 (w - 3) = 1 := by
             rw [tb.1]
             first | rw [if_pos (by omega)] | rw [if_neg (by omega)]
           have tb1 : zTab 1 (w - 3) = 999 := by
             rw [tb.2]
             repeat (first | rw [if_pos (by omega)] | rw [if_neg (by omega)])
           show zRg b n0 σ0 (if ¬ (zTt b n0 (znx b n0 A.q) = 3 ∧ zTab 2 (w - 3) ≤ zTs b n0 (znx b n0 A.q) ∧ zTs b n0 (znx b n0 A.q) ≤ zTab 1 (w - 3)) then .inl (znf b n0 (znx b n0 A.q), znx b n0 A.q) else .inr (zAm (znx b n0 (znx b n0 A.q)) (zs A.D 7 (9 * k + (w - 3)) (zTs b n0 (znx b n0 A.q))) A.nm A.sn (A.td ||| 2 ^ min w 12) A.op A.mk)) _
           rw [tb2, tb1]
           rcases hTk with ⟨hc, ea, hk8⟩ | ⟨hc, hF⟩
           · rw [if_neg (fun y => y hc)]
             refine ⟨?_, (hA2.m7 (j := 9 * k + (w - 3)) (v := zTs b n0 (znx b n0 A.q)) ⟨by have := hc.2.1; omega, by have := hc.2.2; omega⟩).tok (znx_r (znx_r hq).2).2⟩
             rw [ea]
             have g := (zRrK.nx hE hk8).putD (r := 7) (j := 9 * k + (w - 3)) (v := zTs b n0 (znx b n0 A.q)) hG (by decide) (by decide) (by decide) (by show 9 * k + (w - 3) < 108; omega)
             unfold zRr
             rw [show zN (zAm (znx b n0 (znx b n0 A.q)) (zs A.D 7 (9 * k + (w - 3)) (zTs b n0 (znx b n0 A.q))) A.nm A.sn (A.td ||| 2 ^ min w 12) A.op A.mk).D = zN A.D from zN_zs (by decide)]
             exact g
           · rw [if_pos hc]
             exact hF.drf (by omega))
        | (refine g_retV (by decide +kernel) rfl ⟨by decide, by decide⟩ ?_
           show zRg _ _ _ _ _
           rw [zpK_g hw w3 ok, if_pos (by omega)]
           unfold zpM
           rw [if_neg (by omega)]
           have tb := zTab_m (w - 3) (by omega) (by omega) (by omega)
           have tb2 : zTab 2 (w - 3) = 0 := by
             rw [tb.1]
             first | rw [if_pos (by omega)] | rw [if_neg (by omega)]
           have tb1 : zTab 1 (w - 3) = 9 := by
             rw [tb.2]
             repeat (first | rw [if_pos (by omega)] | rw [if_neg (by omega)])
           show zRg b n0 σ0 (if ¬ (zTt b n0 (znx b n0 A.q) = 3 ∧ zTab 2 (w - 3) ≤ zTs b n0 (znx b n0 A.q) ∧ zTs b n0 (znx b n0 A.q) ≤ zTab 1 (w - 3)) then .inl (znf b n0 (znx b n0 A.q), znx b n0 A.q) else .inr (zAm (znx b n0 (znx b n0 A.q)) (zs A.D 7 (9 * k + (w - 3)) (zTs b n0 (znx b n0 A.q))) A.nm A.sn (A.td ||| 2 ^ min w 12) A.op A.mk)) _
           rw [tb2, tb1]
           rcases hTk with ⟨hc, ea, hk8⟩ | ⟨hc, hF⟩
           · rw [if_neg (fun y => y hc)]
             refine ⟨?_, (hA2.m7 (j := 9 * k + (w - 3)) (v := zTs b n0 (znx b n0 A.q)) ⟨by have := hc.2.1; omega, by have := hc.2.2; omega⟩).tok (znx_r (znx_r hq).2).2⟩
             rw [ea]
             have g := (zRrK.nx hE hk8).putD (r := 7) (j := 9 * k + (w - 3)) (v := zTs b n0 (znx b n0 A.q)) hG (by decide) (by decide) (by decide) (by show 9 * k + (w - 3) < 108; omega)
             unfold zRr
             rw [show zN (zAm (znx b n0 (znx b n0 A.q)) (zs A.D 7 (9 * k + (w - 3)) (zTs b n0 (znx b n0 A.q))) A.nm A.sn (A.td ||| 2 ^ min w 12) A.op A.mk).D = zN A.D from zN_zs (by decide)]
             exact g
           · rw [if_pos hc]
             exact hF.drf (by omega))
        | (refine g_retV (by decide +kernel) rfl ⟨by decide, by decide⟩ ?_
           show zRg _ _ _ _ _
           rw [zpK_g hw w3 ok, if_pos (by omega)]
           unfold zpM
           rw [if_neg (by omega)]
           have tb := zTab_m (w - 3) (by omega) (by omega) (by omega)
           have tb2 : zTab 2 (w - 3) = 0 := by
             rw [tb.1]
             first | rw [if_pos (by omega)] | rw [if_neg (by omega)]
           have tb1 : zTab 1 (w - 3) = 20 := by
             rw [tb.2]
             repeat (first | rw [if_pos (by omega)] | rw [if_neg (by omega)])
           show zRg b n0 σ0 (if ¬ (zTt b n0 (znx b n0 A.q) = 3 ∧ zTab 2 (w - 3) ≤ zTs b n0 (znx b n0 A.q) ∧ zTs b n0 (znx b n0 A.q) ≤ zTab 1 (w - 3)) then .inl (znf b n0 (znx b n0 A.q), znx b n0 A.q) else .inr (zAm (znx b n0 (znx b n0 A.q)) (zs A.D 7 (9 * k + (w - 3)) (zTs b n0 (znx b n0 A.q))) A.nm A.sn (A.td ||| 2 ^ min w 12) A.op A.mk)) _
           rw [tb2, tb1]
           rcases hTk with ⟨hc, ea, hk8⟩ | ⟨hc, hF⟩
           · rw [if_neg (fun y => y hc)]
             refine ⟨?_, (hA2.m7 (j := 9 * k + (w - 3)) (v := zTs b n0 (znx b n0 A.q)) ⟨by have := hc.2.1; omega, by have := hc.2.2; omega⟩).tok (znx_r (znx_r hq).2).2⟩
             rw [ea]
             have g := (zRrK.nx hE hk8).putD (r := 7) (j := 9 * k + (w - 3)) (v := zTs b n0 (znx b n0 A.q)) hG (by decide) (by decide) (by decide) (by show 9 * k + (w - 3) < 108; omega)
             unfold zRr
             rw [show zN (zAm (znx b n0 (znx b n0 A.q)) (zs A.D 7 (9 * k + (w - 3)) (zTs b n0 (znx b n0 A.q))) A.nm A.sn (A.td ||| 2 ^ min w 12) A.op A.mk).D = zN A.D from zN_zs (by decide)]
             exact g
           · rw [if_pos hc]
             exact hF.drf (by omega))
        | (refine g_retV (by decide +kernel) rfl ⟨by decide, by decide⟩ ?_
           show zRg _ _ _ _ _
           rw [zpK_g hw w3 ok, if_pos (by omega)]
           unfold zpM
           rw [if_pos (by omega)]
           refine ⟨?_, hA2.m7 (by decide)⟩
           have g := zRrK.putD (r := 7) (j := 9 * k + (w - 3)) (v := 1) hE hG (by decide) (by decide) (by decide) (by show 9 * k + (w - 3) < 108; omega)
           unfold zRr
           rw [show zN (zAm (znx b n0 A.q) (zs A.D 7 (9 * k + (w - 3)) 1) A.nm A.sn (A.td ||| 2 ^ min w 12) A.op A.mk).D = zN A.D from zN_zs (by decide)]
           exact g)
theorem t_Md_readsMark58 {G : zG} {X : zX} {n : Nat} {σ : zSt} {b : Nat → Int} {n0 : Nat} {σ0 : zSt} {A : zAb} {k w T : Nat} (hn : 220 ≤ n) (h0 : zR0 b n0 σ0) (hn0 : n0 ≤ 600) (hA : zAi n0 A) (hv : zAv A) (hk : A.mk = (k : Int)) (hw : zkw b n0 A.q = (w : Int)) (w3 : 3 ≤ w) (w15 : w ≤ 15) (hR : zRr b n0 σ0 A σ) (hT : σ 200 k = (T : Int)) {x4 : Int} (h4 : (x4 = 1 ∧ (A.D 2 k ≠ -1 ∧ A.D 1 (A.D 2 k).toNat = 1)) ∨ (x4 = 0 ∧ ¬ (A.D 2 k ≠ -1 ∧ A.D 1 (A.D 2 k).toNat = 1)))  : Go G X m_Md_readsMark (5, 0, 0, 0, 0) n SH σ 58 [(0, vr G 189), (1, vi (k : Int)), (2, vi (w : Int)), (3, vi ((min w 12 - 3 : Nat) : Int)), (4, vi x4)] [] (zV n SH (fun σ' => zRg b n0 σ0 (zpK b n0 A k) σ')) := by
  have hG := hA.2.1
  have hq := hA.1
  have hQ := hR.1
  have h14 := hQ.1
  have ht := hQ.2.1
  have tr := zTt_r (b := b) (n0 := n0) (q := A.q)
  have sr := zsrt_r (zTt b n0 A.q)
  have e18 := ht.2.1
  have br := zTb_r (b := b) hq
  obtain ⟨h5, kN, h2k⟩ := hv.m5 hA hk
  have k12 : k < 12 := by have := hA.2.2.2.1; have := hG.1; omega
  have eT8 : T * 8 = A.td := by
    have e := hR.2.2.1 (by omega)
    rw [hk, Int.toNat_natCast, hT] at e
    omega
  have T1 : T < 1024 := by have := hA.2.2.2.2.2; omega
  obtain ⟨I, hI⟩ : ∃ I : Nat, I = min w 12 - 3 := ⟨_, rfl⟩
  have hI3 : min w 12 = I + 3 := by omega
  have zb := zbit0 T T1 I (by omega)
  rw [eT8, ← hI3] at zb
  obtain ⟨Y, hY⟩ : ∃ Y : Nat, Y = T / 2 ^ I &&& 1 := ⟨_, rfl⟩
  have Yr : Y ≤ 1 := by rw [hY]; exact Nat.and_le_right
  have TI : T / 2 ^ I < 2147483648 := by have := Nat.div_le_self T (2 ^ I); omega
  have I2 : 2 ^ I ≤ 2 ^ 9 := Nat.pow_le_pow_right (by decide) (by omega)
  have I3 : (2 : Nat) ^ 9 = 512 := rfl
  rw [← hY] at zb
  rw [← hI]
  refine g_aload_n (i := 0) (by decide +kernel) rfl ?_
  refine g_aload_n (i := 0) (by decide +kernel) rfl ?_
  refine g_getr f_Md_82 (by decide +kernel) (by omega) rfl rfl ?_
  refine g_iload_n (i := 1) (by decide +kernel) rfl ?_
  refine g_iald (j := k) (by decide +kernel) (by omega) rfl rfl (by omega) (by decide) ?_
  refine g_iload_n (i := 3) (by decide +kernel) rfl ?_
  rw [hT]
  refine g_ishr (by decide +kernel) (by omega) (by omega) ?_
  refine g_iconst (a := 1) (by decide +kernel) ?_
  refine g_iand (y := 1) (by decide +kernel) TI (by decide) ?_
  rw [← hY]
  refine g_if_ne (off := 18) (tgt := 87) (by decide +kernel) (by decide) ⟨by omega, by omega⟩ (fun h69 => ?_) (fun h69 => ?_)
  · refine g_iconst (a := 0) (by decide +kernel) ?_
    refine g_iconst (a := 5) (by decide +kernel) ?_
    refine g_cVV (st := _) (c_Md_wants hn ⟨by omega, by omega⟩ (fun _ => ⟨by omega, by omega⟩) ⟨by decide, by decide⟩ (by decide)) k_Md_wants l_Md_243 (by decide +kernel) (by omega) rfl rfl rfl rfl (Nat.le_of_ble_eq_true rfl) (by decide) ⟨by decide, by decide⟩ ?_
    rintro υ hυ
    have hS : ((A.td &&& 2 ^ (min w 12) = 0 ∧ (w < 13 ∨ (A.D 2 k ≠ -1 ∧ A.D 1 (A.D 2 k).toNat = 1))) ∧ υ = σ) ∨ (¬ (A.td &&& 2 ^ (min w 12) = 0 ∧ (w < 13 ∨ (A.D 2 k ≠ -1 ∧ A.D 1 (A.D 2 k).toNat = 1))) ∧ zRft σ0 (5, A.q) υ ∧ υ = zfl σ 5) := by
      have gf : zRft σ0 (5, A.q) (zfl σ 5) := by
        have g := hQ.fl (k := 5) (by decide)
        rw [if_neg (by decide)] at g
        exact g
      first
        | (have e2 : υ = σ := by rw [hυ, if_neg (by decide)]
           refine Or.inl ⟨⟨zb.1.mp (by omega), ?_⟩, e2⟩
           first
             | exact Or.inl (by omega)
             | (refine Or.inr ?_
                rcases h4 with ⟨_, y⟩ | ⟨e, _⟩
                · exact y
                · exfalso; omega))
        | (have e2 : υ = zfl σ 5 := by rw [hυ, if_pos rfl]
           refine Or.inr ⟨fun y => ?_, by rw [e2]; exact gf, e2⟩
           first
             | (have y1 := zb.1.mpr y.1
                omega)
             | (rcases h4 with ⟨e, _⟩ | ⟨_, y2⟩
                · omega
                · rcases y.2 with y3 | y3
                  · omega
                  · exact y2 y3))
    have u14 : 0 ≤ υ 189 14 ∧ υ 189 14 ≤ 8 := by
      rcases hS with ⟨_, e⟩ | ⟨_, e, _⟩
      · rw [e]; omega
      · have e1 := e.1; have e2 := e.2.1; omega
    refine g_aload_n (i := 0) (by decide +kernel) rfl ?_
    refine g_geti f_Md_230 (by decide +kernel) (by omega) rfl rfl ?_
    refine g_if_le (off := 4) (tgt := 100) (by decide +kernel) (by decide) ⟨by omega, by omega⟩ (fun h96 => ?_) (fun h96 => ?_)
    · rcases hS with ⟨ok, e2⟩ | ⟨nok, hF, e3⟩
      case inr => exact absurd hF.2.1 (by have := hF.1; omega)
      obtain rfl := e2.symm
      refine g_aload_n (i := 0) (by decide +kernel) rfl ?_
      refine g_getr f_Md_82 (by decide +kernel) (by omega) rfl rfl ?_
      refine g_iload_n (i := 1) (by decide +kernel) rfl ?_
      refine g_dup2 (by decide +kernel) rfl rfl ?_
      refine g_iald (j := k) (by decide +kernel) (by omega) rfl rfl (by omega) (by decide) ?_
      refine g_iconst (a := 1) (by decide +kernel) ?_
      refine g_iload_n (i := 3) (by decide +kernel) rfl ?_
      refine g_ishl1 (by decide +kernel) (by omega) ?_
      rw [hT]
      refine g_ior (by decide +kernel) (by omega) (by omega) ?_
      refine g_iast (j := k) (by decide +kernel) (by omega) rfl rfl (by omega) (by decide) ?_
      refine g_aload_n (i := 0) (by decide +kernel) rfl ?_
      obtain ⟨υ, eυ⟩ : ∃ υ, υ = zs σ 200 k ((T ||| 2 ^ I : Nat) : Int) := ⟨_, rfl⟩
      refine g_eq (σ' := υ) ?_ eυ.symm rfl rfl
      have u189 : υ 189 = σ 189 := by rw [eυ]; exact zs_other (by decide)
      have t2 : zTt b n0 A.q = 2 := zkw_w (by omega)
      have q0 : A.q < n0 := (zTt_w t2).1
      have e17 : σ 189 17 = (zTb b n0 A.q : Int) := by rw [ht.2.2.1, if_neg (by omega)]
      have hU : zRrK b n0 σ0 (zN A.D) (zAT A (min w 12)) υ := by
        rw [eυ]
        refine ⟨hQ.oth (by decide), ⟨fun i hi => by rw [zs_other (by decide)]; exact hR.2.1.1 i hi, fun i hi hb => by rw [zs_other (by decide)]; exact hR.2.1.2 i hi hb⟩, fun _ => ?_, by rw [zs_other (by decide)]; exact hR.2.2.2⟩
        show zs σ 200 k ((T ||| 2 ^ I : Nat) : Int) 200 A.mk.toNat * 8 = ((A.td ||| 2 ^ min w 12 : Nat) : Int)
        rw [hk, Int.toNat_natCast, zs_eq, ← zb.2]
        push_cast
        rfl
      have uf : zFrM σ0 υ := hU.1.2.2.2
      refine g_cVV (st := _) (c_Md_reads hn (h0.bm uf) (h0.end uf) hn0 br.2 (by rw [u189]; exact e17)) k_Md_reads l_Md_247 (by decide +kernel) (by omega) rfl rfl rfl rfl (Nat.le_of_ble_eq_true rfl) (by decide) ⟨by decide, by decide⟩ ?_
      rintro υ9 hk9
      exact t_Md_readsMark116 hn h0 hn0 hA hv hk hw w3 w15 ok (zRrK.nx hU hk9)
    · have hres : zRg b n0 σ0 (zpK b n0 A k) υ := by
        rcases hS with ⟨ok, e2⟩ | ⟨nok, hF, e3⟩
        · exfalso; rw [e2] at h96; omega
        · rw [zpK_5 hw w3 nok]; exact hF
      refine g_retV (by decide +kernel) rfl ⟨by decide, by decide⟩ ?_
      exact hres
  · refine g_iload_n (i := 2) (by decide +kernel) rfl ?_
    refine g_bipush (a := 13) (by decide +kernel) (by decide) ?_
    refine g_icmp_lt (off := 8) (tgt := 83) (by decide +kernel) (by decide) ⟨by omega, by omega⟩ ⟨by omega, by omega⟩ (fun h75 => ?_) (fun h75 => ?_)
    · refine g_iconst (a := 1) (by decide +kernel) ?_
      refine g_goto (off := 4) (tgt := 88) (by decide +kernel) (by decide) ?_
      refine g_iconst (a := 5) (by decide +kernel) ?_
      refine g_cVV (st := _) (c_Md_wants hn ⟨by omega, by omega⟩ (fun _ => ⟨by omega, by omega⟩) ⟨by decide, by decide⟩ (by decide)) k_Md_wants l_Md_243 (by decide +kernel) (by omega) rfl rfl rfl rfl (Nat.le_of_ble_eq_true rfl) (by decide) ⟨by decide, by decide⟩ ?_
      rintro υ hυ
      have hS : ((A.td &&& 2 ^ (min w 12) = 0 ∧ (w < 13 ∨ (A.D 2 k ≠ -1 ∧ A.D 1 (A.D 2 k).toNat = 1))) ∧ υ = σ) ∨ (¬ (A.td &&& 2 ^ (min w 12) = 0 ∧ (w < 13 ∨ (A.D 2 k ≠ -1 ∧ A.D 1 (A.D 2 k).toNat = 1))) ∧ zRft σ0 (5, A.q) υ ∧ υ = zfl σ 5) := by
        have gf : zRft σ0 (5, A.q) (zfl σ 5) := by
          have g := hQ.fl (k := 5) (by decide)
          rw [if_neg (by decide)] at g
          exact g
        first
          | (have e2 : υ = σ := by rw [hυ, if_neg (by decide)]
             refine Or.inl ⟨⟨zb.1.mp (by omega), ?_⟩, e2⟩
             first
               | exact Or.inl (by omega)
               | (refine Or.inr ?_
                  rcases h4 with ⟨_, y⟩ | ⟨e, _⟩
                  · exact y
                  · exfalso; omega))
          | (have e2 : υ = zfl σ 5 := by rw [hυ, if_pos rfl]
             refine Or.inr ⟨fun y => ?_, by rw [e2]; exact gf, e2⟩
             first
               | (have y1 := zb.1.mpr y.1
                  omega)
               | (rcases h4 with ⟨e, _⟩ | ⟨_, y2⟩
                  · omega
                  · rcases y.2 with y3 | y3
                    · omega
                    · exact y2 y3))
      have u14 : 0 ≤ υ 189 14 ∧ υ 189 14 ≤ 8 := by
        rcases hS with ⟨_, e⟩ | ⟨_, e, _⟩
        · rw [e]; omega
        · have e1 := e.1; have e2 := e.2.1; omega
      refine g_aload_n (i := 0) (by decide +kernel) rfl ?_
      refine g_geti f_Md_230 (by decide +kernel) (by omega) rfl rfl ?_
      refine g_if_le (off := 4) (tgt := 100) (by decide +kernel) (by decide) ⟨by omega, by omega⟩ (fun h96 => ?_) (fun h96 => ?_)
      · rcases hS with ⟨ok, e2⟩ | ⟨nok, hF, e3⟩
        case inr => exact absurd hF.2.1 (by have := hF.1; omega)
        obtain rfl := e2.symm
        refine g_aload_n (i := 0) (by decide +kernel) rfl ?_
        refine g_getr f_Md_82 (by decide +kernel) (by omega) rfl rfl ?_
        refine g_iload_n (i := 1) (by decide +kernel) rfl ?_
        refine g_dup2 (by decide +kernel) rfl rfl ?_
        refine g_iald (j := k) (by decide +kernel) (by omega) rfl rfl (by omega) (by decide) ?_
        refine g_iconst (a := 1) (by decide +kernel) ?_
        refine g_iload_n (i := 3) (by decide +kernel) rfl ?_
        refine g_ishl1 (by decide +kernel) (by omega) ?_
        rw [hT]
        refine g_ior (by decide +kernel) (by omega) (by omega) ?_
        refine g_iast (j := k) (by decide +kernel) (by omega) rfl rfl (by omega) (by decide) ?_
        refine g_aload_n (i := 0) (by decide +kernel) rfl ?_
        obtain ⟨υ, eυ⟩ : ∃ υ, υ = zs σ 200 k ((T ||| 2 ^ I : Nat) : Int) := ⟨_, rfl⟩
        refine g_eq (σ' := υ) ?_ eυ.symm rfl rfl
        have u189 : υ 189 = σ 189 := by rw [eυ]; exact zs_other (by decide)
        have t2 : zTt b n0 A.q = 2 := zkw_w (by omega)
        have q0 : A.q < n0 := (zTt_w t2).1
        have e17 : σ 189 17 = (zTb b n0 A.q : Int) := by rw [ht.2.2.1, if_neg (by omega)]
        have hU : zRrK b n0 σ0 (zN A.D) (zAT A (min w 12)) υ := by
          rw [eυ]
          refine ⟨hQ.oth (by decide), ⟨fun i hi => by rw [zs_other (by decide)]; exact hR.2.1.1 i hi, fun i hi hb => by rw [zs_other (by decide)]; exact hR.2.1.2 i hi hb⟩, fun _ => ?_, by rw [zs_other (by decide)]; exact hR.2.2.2⟩
          show zs σ 200 k ((T ||| 2 ^ I : Nat) : Int) 200 A.mk.toNat * 8 = ((A.td ||| 2 ^ min w 12 : Nat) : Int)
          rw [hk, Int.toNat_natCast, zs_eq, ← zb.2]
          push_cast
          rfl
        have uf : zFrM σ0 υ := hU.1.2.2.2
        refine g_cVV (st := _) (c_Md_reads hn (h0.bm uf) (h0.end uf) hn0 br.2 (by rw [u189]; exact e17)) k_Md_reads l_Md_247 (by decide +kernel) (by omega) rfl rfl rfl rfl (Nat.le_of_ble_eq_true rfl) (by decide) ⟨by decide, by decide⟩ ?_
        rintro υ9 hk9
        exact t_Md_readsMark116 hn h0 hn0 hA hv hk hw w3 w15 ok (zRrK.nx hU hk9)
      · have hres : zRg b n0 σ0 (zpK b n0 A k) υ := by
          rcases hS with ⟨ok, e2⟩ | ⟨nok, hF, e3⟩
          · exfalso; rw [e2] at h96; omega
          · rw [zpK_5 hw w3 nok]; exact hF
        refine g_retV (by decide +kernel) rfl ⟨by decide, by decide⟩ ?_
        exact hres
    · refine g_iload (i := 4) (by decide +kernel) rfl ?_
      refine g_if_eq (off := 7) (tgt := 87) (by decide +kernel) (by decide) ⟨by omega, by omega⟩ (fun h80 => ?_) (fun h80 => ?_)
      · refine g_iconst (a := 0) (by decide +kernel) ?_
        refine g_iconst (a := 5) (by decide +kernel) ?_
        refine g_cVV (st := _) (c_Md_wants hn ⟨by omega, by omega⟩ (fun _ => ⟨by omega, by omega⟩) ⟨by decide, by decide⟩ (by decide)) k_Md_wants l_Md_243 (by decide +kernel) (by omega) rfl rfl rfl rfl (Nat.le_of_ble_eq_true rfl) (by decide) ⟨by decide, by decide⟩ ?_
        rintro υ hυ
        have hS : ((A.td &&& 2 ^ (min w 12) = 0 ∧ (w < 13 ∨ (A.D 2 k ≠ -1 ∧ A.D 1 (A.D 2 k).toNat = 1))) ∧ υ = σ) ∨ (¬ (A.td &&& 2 ^ (min w 12) = 0 ∧ (w < 13 ∨ (A.D 2 k ≠ -1 ∧ A.D 1 (A.D 2 k).toNat = 1))) ∧ zRft σ0 (5, A.q) υ ∧ υ = zfl σ 5) := by
          have gf : zRft σ0 (5, A.q) (zfl σ 5) := by
            have g := hQ.fl (k := 5) (by decide)
            rw [if_neg (by decide)] at g
            exact g
          first
            | (have e2 : υ = σ := by rw [hυ, if_neg (by decide)]
               refine Or.inl ⟨⟨zb.1.mp (by omega), ?_⟩, e2⟩
               first
                 | exact Or.inl (by omega)
                 | (refine Or.inr ?_
                    rcases h4 with ⟨_, y⟩ | ⟨e, _⟩
                    · exact y
                    · exfalso; omega))
            | (have e2 : υ = zfl σ 5 := by rw [hυ, if_pos rfl]
               refine Or.inr ⟨fun y => ?_, by rw [e2]; exact gf, e2⟩
               first
                 | (have y1 := zb.1.mpr y.1
                    omega)
                 | (rcases h4 with ⟨e, _⟩ | ⟨_, y2⟩
                    · omega
                    · rcases y.2 with y3 | y3
                      · omega
                      · exact y2 y3))
        have u14 : 0 ≤ υ 189 14 ∧ υ 189 14 ≤ 8 := by
          rcases hS with ⟨_, e⟩ | ⟨_, e, _⟩
          · rw [e]; omega
          · have e1 := e.1; have e2 := e.2.1; omega
        refine g_aload_n (i := 0) (by decide +kernel) rfl ?_
        refine g_geti f_Md_230 (by decide +kernel) (by omega) rfl rfl ?_
        refine g_if_le (off := 4) (tgt := 100) (by decide +kernel) (by decide) ⟨by omega, by omega⟩ (fun h96 => ?_) (fun h96 => ?_)
        · rcases hS with ⟨ok, e2⟩ | ⟨nok, hF, e3⟩
          case inr => exact absurd hF.2.1 (by have := hF.1; omega)
          obtain rfl := e2.symm
          refine g_aload_n (i := 0) (by decide +kernel) rfl ?_
          refine g_getr f_Md_82 (by decide +kernel) (by omega) rfl rfl ?_
          refine g_iload_n (i := 1) (by decide +kernel) rfl ?_
          refine g_dup2 (by decide +kernel) rfl rfl ?_
          refine g_iald (j := k) (by decide +kernel) (by omega) rfl rfl (by omega) (by decide) ?_
          refine g_iconst (a := 1) (by decide +kernel) ?_
          refine g_iload_n (i := 3) (by decide +kernel) rfl ?_
          refine g_ishl1 (by decide +kernel) (by omega) ?_
          rw [hT]
          refine g_ior (by decide +kernel) (by omega) (by omega) ?_
          refine g_iast (j := k) (by decide +kernel) (by omega) rfl rfl (by omega) (by decide) ?_
          refine g_aload_n (i := 0) (by decide +kernel) rfl ?_
          obtain ⟨υ, eυ⟩ : ∃ υ, υ = zs σ 200 k ((T ||| 2 ^ I : Nat) : Int) := ⟨_, rfl⟩
          refine g_eq (σ' := υ) ?_ eυ.symm rfl rfl
          have u189 : υ 189 = σ 189 := by rw [eυ]; exact zs_other (by decide)
          have t2 : zTt b n0 A.q = 2 := zkw_w (by omega)
          have q0 : A.q < n0 := (zTt_w t2).1
          have e17 : σ 189 17 = (zTb b n0 A.q : Int) := by rw [ht.2.2.1, if_neg (by omega)]
          have hU : zRrK b n0 σ0 (zN A.D) (zAT A (min w 12)) υ := by
            rw [eυ]
            refine ⟨hQ.oth (by decide), ⟨fun i hi => by rw [zs_other (by decide)]; exact hR.2.1.1 i hi, fun i hi hb => by rw [zs_other (by decide)]; exact hR.2.1.2 i hi hb⟩, fun _ => ?_, by rw [zs_other (by decide)]; exact hR.2.2.2⟩
            show zs σ 200 k ((T ||| 2 ^ I : Nat) : Int) 200 A.mk.toNat * 8 = ((A.td ||| 2 ^ min w 12 : Nat) : Int)
            rw [hk, Int.toNat_natCast, zs_eq, ← zb.2]
            push_cast
            rfl
          have uf : zFrM σ0 υ := hU.1.2.2.2
          refine g_cVV (st := _) (c_Md_reads hn (h0.bm uf) (h0.end uf) hn0 br.2 (by rw [u189]; exact e17)) k_Md_reads l_Md_247 (by decide +kernel) (by omega) rfl rfl rfl rfl (Nat.le_of_ble_eq_true rfl) (by decide) ⟨by decide, by decide⟩ ?_
          rintro υ9 hk9
          exact t_Md_readsMark116 hn h0 hn0 hA hv hk hw w3 w15 ok (zRrK.nx hU hk9)
        · have hres : zRg b n0 σ0 (zpK b n0 A k) υ := by
            rcases hS with ⟨ok, e2⟩ | ⟨nok, hF, e3⟩
            · exfalso; rw [e2] at h96; omega
            · rw [zpK_5 hw w3 nok]; exact hF
          refine g_retV (by decide +kernel) rfl ⟨by decide, by decide⟩ ?_
          exact hres
      · refine g_iconst (a := 1) (by decide +kernel) ?_
        refine g_goto (off := 4) (tgt := 88) (by decide +kernel) (by decide) ?_
        refine g_iconst (a := 5) (by decide +kernel) ?_
        refine g_cVV (st := _) (c_Md_wants hn ⟨by omega, by omega⟩ (fun _ => ⟨by omega, by omega⟩) ⟨by decide, by decide⟩ (by decide)) k_Md_wants l_Md_243 (by decide +kernel) (by omega) rfl rfl rfl rfl (Nat.le_of_ble_eq_true rfl) (by decide) ⟨by decide, by decide⟩ ?_
        rintro υ hυ
        have hS : ((A.td &&& 2 ^ (min w 12) = 0 ∧ (w < 13 ∨ (A.D 2 k ≠ -1 ∧ A.D 1 (A.D 2 k).toNat = 1))) ∧ υ = σ) ∨ (¬ (A.td &&& 2 ^ (min w 12) = 0 ∧ (w < 13 ∨ (A.D 2 k ≠ -1 ∧ A.D 1 (A.D 2 k).toNat = 1))) ∧ zRft σ0 (5, A.q) υ ∧ υ = zfl σ 5) := by
          have gf : zRft σ0 (5, A.q) (zfl σ 5) := by
            have g := hQ.fl (k := 5) (by decide)
            rw [if_neg (by decide)] at g
            exact g
          first
            | (have e2 : υ = σ := by rw [hυ, if_neg (by decide)]
               refine Or.inl ⟨⟨zb.1.mp (by omega), ?_⟩, e2⟩
               first
                 | exact Or.inl (by omega)
                 | (refine Or.inr ?_
                    rcases h4 with ⟨_, y⟩ | ⟨e, _⟩
                    · exact y
                    · exfalso; omega))
            | (have e2 : υ = zfl σ 5 := by rw [hυ, if_pos rfl]
               refine Or.inr ⟨fun y => ?_, by rw [e2]; exact gf, e2⟩
               first
                 | (have y1 := zb.1.mpr y.1
                    omega)
                 | (rcases h4 with ⟨e, _⟩ | ⟨_, y2⟩
                    · omega
                    · rcases y.2 with y3 | y3
                      · omega
                      · exact y2 y3))
        have u14 : 0 ≤ υ 189 14 ∧ υ 189 14 ≤ 8 := by
          rcases hS with ⟨_, e⟩ | ⟨_, e, _⟩
          · rw [e]; omega
          · have e1 := e.1; have e2 := e.2.1; omega
        refine g_aload_n (i := 0) (by decide +kernel) rfl ?_
        refine g_geti f_Md_230 (by decide +kernel) (by omega) rfl rfl ?_
        refine g_if_le (off := 4) (tgt := 100) (by decide +kernel) (by decide) ⟨by omega, by omega⟩ (fun h96 => ?_) (fun h96 => ?_)
        · rcases hS with ⟨ok, e2⟩ | ⟨nok, hF, e3⟩
          case inr => exact absurd hF.2.1 (by have := hF.1; omega)
          obtain rfl := e2.symm
          refine g_aload_n (i := 0) (by decide +kernel) rfl ?_
          refine g_getr f_Md_82 (by decide +kernel) (by omega) rfl rfl ?_
          refine g_iload_n (i := 1) (by decide +kernel) rfl ?_
          refine g_dup2 (by decide +kernel) rfl rfl ?_
          refine g_iald (j := k) (by decide +kernel) (by omega) rfl rfl (by omega) (by decide) ?_
          refine g_iconst (a := 1) (by decide +kernel) ?_
          refine g_iload_n (i := 3) (by decide +kernel) rfl ?_
          refine g_ishl1 (by decide +kernel) (by omega) ?_
          rw [hT]
          refine g_ior (by decide +kernel) (by omega) (by omega) ?_
          refine g_iast (j := k) (by decide +kernel) (by omega) rfl rfl (by omega) (by decide) ?_
          refine g_aload_n (i := 0) (by decide +kernel) rfl ?_
          obtain ⟨υ, eυ⟩ : ∃ υ, υ = zs σ 200 k ((T ||| 2 ^ I : Nat) : Int) := ⟨_, rfl⟩
          refine g_eq (σ' := υ) ?_ eυ.symm rfl rfl
          have u189 : υ 189 = σ 189 := by rw [eυ]; exact zs_other (by decide)
          have t2 : zTt b n0 A.q = 2 := zkw_w (by omega)
          have q0 : A.q < n0 := (zTt_w t2).1
          have e17 : σ 189 17 = (zTb b n0 A.q : Int) := by rw [ht.2.2.1, if_neg (by omega)]
          have hU : zRrK b n0 σ0 (zN A.D) (zAT A (min w 12)) υ := by
            rw [eυ]
            refine ⟨hQ.oth (by decide), ⟨fun i hi => by rw [zs_other (by decide)]; exact hR.2.1.1 i hi, fun i hi hb => by rw [zs_other (by decide)]; exact hR.2.1.2 i hi hb⟩, fun _ => ?_, by rw [zs_other (by decide)]; exact hR.2.2.2⟩
            show zs σ 200 k ((T ||| 2 ^ I : Nat) : Int) 200 A.mk.toNat * 8 = ((A.td ||| 2 ^ min w 12 : Nat) : Int)
            rw [hk, Int.toNat_natCast, zs_eq, ← zb.2]
            push_cast
            rfl
          have uf : zFrM σ0 υ := hU.1.2.2.2
          refine g_cVV (st := _) (c_Md_reads hn (h0.bm uf) (h0.end uf) hn0 br.2 (by rw [u189]; exact e17)) k_Md_reads l_Md_247 (by decide +kernel) (by omega) rfl rfl rfl rfl (Nat.le_of_ble_eq_true rfl) (by decide) ⟨by decide, by decide⟩ ?_
          rintro υ9 hk9
          exact t_Md_readsMark116 hn h0 hn0 hA hv hk hw w3 w15 ok (zRrK.nx hU hk9)
        · have hres : zRg b n0 σ0 (zpK b n0 A k) υ := by
            rcases hS with ⟨ok, e2⟩ | ⟨nok, hF, e3⟩
            · exfalso; rw [e2] at h96; omega
            · rw [zpK_5 hw w3 nok]; exact hF
          refine g_retV (by decide +kernel) rfl ⟨by decide, by decide⟩ ?_
          exact hres
theorem c_Md_readsMark {G : zG} {n : Nat} {σ : zSt} {b : Nat → Int} {n0 : Nat} {σ0 : zSt} {A : zAb} {k w : Nat} (hn : 220 ≤ n) (h0 : zR0 b n0 σ0) (hn0 : n0 ≤ 600) (hA : zAi n0 A) (hv : zAv A) (hk : A.mk = (k : Int)) (hw : zkw b n0 A.q = (w : Int)) (w3 : 3 ≤ w) (w15 : w ≤ 15) (hR : zRr b n0 σ0 A σ)  : Gm G y_Md_readsMark m_Md_readsMark 5 0 0 [vr G 189, vi (k : Int), vi (w : Int)] n SH σ (zV n SH (fun σ' => zRg b n0 σ0 (zpK b n0 A k) σ')) := by
  refine g_enter (L := [(0, _), (1, _), (2, _)]) (by decide) rfl rfl rfl (Nat.le_of_ble_eq_true rfl) (fun X => ?_)
  have hG := hA.2.1
  obtain ⟨h5, kN, h2k⟩ := hv.m5 hA hk
  have k12 : k < 12 := by have := hA.2.2.2.1; have := hG.1; omega
  have hr2 : -1 ≤ A.D 2 k ∧ A.D 2 k ≤ 11 := (hG.2.1 k k12).2.1
  have eE := hR.2.2.2.2.1
  have a2 : σ 190 (1760 + k) = A.D 2 k := eE k kN 2 (by decide) (by decide)
  have op := hA.2.2.1
  have hT := hR.2.2.1 (by omega)
  rw [hk, Int.toNat_natCast] at hT
  obtain ⟨T, eT⟩ : ∃ T : Nat, σ 200 k = (T : Int) := ⟨(σ 200 k).toNat, by omega⟩
  have J14 : Go G X m_Md_readsMark (5, 0, 0, 0, 0) n SH σ 14 [(0, vr G 189), (1, vi (k : Int)), (2, vi (w : Int))] [vi ((min w 12 - 3 : Nat) : Int)] (zV n SH (fun σ' => zRg b n0 σ0 (zpK b n0 A k) σ')) := by
    refine g_istore_n (i := 3) (L' := [(0, _), (1, _), (2, _), (3, _)]) (by decide +kernel) rfl rfl ?_
    refine g_aload_n (i := 0) (by decide +kernel) rfl ?_
    refine g_getr f_Md_7 (by decide +kernel) (by omega) rfl rfl ?_
    refine g_sipush (a := 1760) (by decide +kernel) (by decide) ?_
    refine g_iload_n (i := 1) (by decide +kernel) rfl ?_
    refine g_iadd (by decide +kernel) ?_
    refine g_iald (j := 1760 + k) (by decide +kernel) (by omega) rfl (by omega) (by omega) (by decide) ?_
    refine g_if_lt (off := 30) (tgt := 55) (by decide +kernel) (by decide) ⟨by omega, by omega⟩ (fun h25 => ?_) (fun h25 => ?_)
    · refine g_iconst (a := 0) (by decide +kernel) ?_
      refine g_istore (i := 4) (L' := [(0, _), (1, _), (2, _), (3, _), (4, _)]) (by decide +kernel) rfl rfl ?_
      first
        | exact t_Md_readsMark58 hn h0 hn0 hA hv hk hw w3 w15 hR eT (Or.inl ⟨rfl, by omega, by rw [eo, Int.toNat_natCast]; omega⟩)
        | exact t_Md_readsMark58 hn h0 hn0 hA hv hk hw w3 w15 hR eT (Or.inr ⟨rfl, fun y => by have y2 := y.2; rw [eo, Int.toNat_natCast] at y2; omega⟩)
        | exact t_Md_readsMark58 hn h0 hn0 hA hv hk hw w3 w15 hR eT (Or.inr ⟨rfl, fun y => by have y1 := y.1; omega⟩)
    · obtain ⟨o, eo⟩ : ∃ o : Nat, A.D 2 k = (o : Int) := ⟨(A.D 2 k).toNat, by omega⟩
      have oN : o < zN A.D := by unfold zN; omega
      have a1 : σ 190 (1748 + o) = A.D 1 o := eE o oN 1 (by decide) (by decide)
      have o12 := (hG.2.1 o (by have := hG.1; unfold zN at oN; omega)).1
      rw [Nat.zero_add] at o12
      refine g_aload_n (i := 0) (by decide +kernel) rfl ?_
      refine g_getr f_Md_7 (by decide +kernel) (by omega) rfl rfl ?_
      refine g_sipush (a := 1748) (by decide +kernel) (by decide) ?_
      refine g_aload_n (i := 0) (by decide +kernel) rfl ?_
      refine g_getr f_Md_7 (by decide +kernel) (by omega) rfl rfl ?_
      refine g_sipush (a := 1760) (by decide +kernel) (by decide) ?_
      refine g_iload_n (i := 1) (by decide +kernel) rfl ?_
      refine g_iadd (by decide +kernel) ?_
      refine g_iald (j := 1760 + k) (by decide +kernel) (by omega) rfl (by omega) (by omega) (by decide) ?_
      refine g_iadd (by decide +kernel) ?_
      refine g_iald (j := 1748 + o) (by decide +kernel) (by omega) rfl (by omega) (by omega) (by decide) ?_
      refine g_iconst (a := 1) (by decide +kernel) ?_
      refine g_icmp_ne (off := 7) (tgt := 55) (by decide +kernel) (by decide) ⟨by omega, by omega⟩ ⟨by omega, by omega⟩ (fun h48 => ?_) (fun h48 => ?_)
      · refine g_iconst (a := 0) (by decide +kernel) ?_
        refine g_istore (i := 4) (L' := [(0, _), (1, _), (2, _), (3, _), (4, _)]) (by decide +kernel) rfl rfl ?_
        first
          | exact t_Md_readsMark58 hn h0 hn0 hA hv hk hw w3 w15 hR eT (Or.inl ⟨rfl, by omega, by rw [eo, Int.toNat_natCast]; omega⟩)
          | exact t_Md_readsMark58 hn h0 hn0 hA hv hk hw w3 w15 hR eT (Or.inr ⟨rfl, fun y => by have y2 := y.2; rw [eo, Int.toNat_natCast] at y2; omega⟩)
          | exact t_Md_readsMark58 hn h0 hn0 hA hv hk hw w3 w15 hR eT (Or.inr ⟨rfl, fun y => by have y1 := y.1; omega⟩)
      · refine g_iconst (a := 1) (by decide +kernel) ?_
        refine g_goto (off := 4) (tgt := 56) (by decide +kernel) (by decide) ?_
        refine g_istore (i := 4) (L' := [(0, _), (1, _), (2, _), (3, _), (4, _)]) (by decide +kernel) rfl rfl ?_
        first
          | exact t_Md_readsMark58 hn h0 hn0 hA hv hk hw w3 w15 hR eT (Or.inl ⟨rfl, by omega, by rw [eo, Int.toNat_natCast]; omega⟩)
          | exact t_Md_readsMark58 hn h0 hn0 hA hv hk hw w3 w15 hR eT (Or.inr ⟨rfl, fun y => by have y2 := y.2; rw [eo, Int.toNat_natCast] at y2; omega⟩)
          | exact t_Md_readsMark58 hn h0 hn0 hA hv hk hw w3 w15 hR eT (Or.inr ⟨rfl, fun y => by have y1 := y.1; omega⟩)
  refine g_iload_n (i := 2) (by decide +kernel) rfl ?_
  refine g_bipush (a := 12) (by decide +kernel) (by decide) ?_
  refine g_icmp_ge (off := 9) (tgt := 12) (by decide +kernel) (by decide) ⟨by omega, by omega⟩ ⟨by omega, by omega⟩ (fun h3 => ?_) (fun h3 => ?_)
  · refine g_bipush (a := 9) (by decide +kernel) (by decide) ?_
    first
      | exact g_eq J14 rfl rfl (by rw [show (w : Int) - 3 = ((min w 12 - 3 : Nat) : Int) by omega])
      | exact g_eq J14 rfl rfl (by rw [show ((min w 12 - 3 : Nat) : Int) = 9 by omega])
  · refine g_iload_n (i := 2) (by decide +kernel) rfl ?_
    refine g_iconst (a := 3) (by decide +kernel) ?_
    refine g_isub (by decide +kernel) ?_
    refine g_goto (off := 5) (tgt := 14) (by decide +kernel) (by decide) ?_
    first
      | exact g_eq J14 rfl rfl (by rw [show (w : Int) - 3 = ((min w 12 - 3 : Nat) : Int) by omega])
      | exact g_eq J14 rfl rfl (by rw [show ((min w 12 - 3 : Nat) : Int) = 9 by omega])
