/-- what is gathered of leaf k at the times below T -/
def zLq (τ S : zSt) (k T : Nat) : Prop := τ 210 k = (zcnt (fun s => decide (0 < zv S (s : Int) 7 k)) T : Int) ∧ τ 213 k = (zcnt (fun s => decide (zv S (s : Int) 1 k = 2)) T : Int) ∧ τ 212 k = (zgr (fun s => zv S (s : Int) 7 k) (-1) T).1 ∧ τ 211 k = (zgr (fun s => zv S (s : Int) 7 k) (-1) T).2
/-- frame of the gathering -/
def zFg (σ τ : zSt) : Prop := (∀ a, (a < 189 ∨ (189 < a ∧ a < 202) ∨ a = 207 ∨ a = 208 ∨ 213 < a) → τ a = σ a) ∧ ∀ j, j ≠ 36 → τ 189 j = σ 189 j
theorem zLq.moved {σ τ S : zSt} {k T : Nat} (h : zLq σ S k T) (e : ∀ a, (210 ≤ a ∧ a ≤ 213) → τ a k = σ a k) : zLq τ S k T := by
  unfold zLq
  rw [e 210 (by omega), e 211 (by omega), e 212 (by omega), e 213 (by omega)]
  exact h
theorem sa_Md_laysLights {G : zG} {X : zX} {n : Nat} {T i k : Nat} {τ : zSt} (hn : 220 ≤ n) (hk : k < 12) {post : zPost} (r9 : zr (τ 209 k)) (kk : ∀ v : Int, v = τ 210 k + (if 0 < τ 209 k then 1 else 0) → Go G X m_Md_laysLights (18, 0, 0, 0, 0) n SH (zs τ 210 k v) 104 [(0, vr G 189), (1, vi (T : Int)), (2, vi (i : Int)), (3, vi (k : Int))] [] post) : Go G X m_Md_laysLights (18, 0, 0, 0, 0) n SH τ 81 [(0, vr G 189), (1, vi (T : Int)), (2, vi (i : Int)), (3, vi (k : Int))] [] post := by
  refine g_aload_n (i := 0) (by decide +kernel) rfl ?_
  refine g_getr f_Md_112 (by decide +kernel) (by omega) rfl rfl ?_
  refine g_iload_n (i := 3) (by decide +kernel) rfl ?_
  refine g_dup2 (by decide +kernel) rfl rfl ?_
  refine g_iald (j := k) (by decide +kernel) (by omega) rfl (by omega) (by omega) (by decide) ?_
  refine g_aload_n (i := 0) (by decide +kernel) rfl ?_
  refine g_getr f_Md_109 (by decide +kernel) (by omega) rfl rfl ?_
  refine g_iload_n (i := 3) (by decide +kernel) rfl ?_
  refine g_iald (j := k) (by decide +kernel) (by omega) rfl (by omega) (by omega) (by decide) ?_
  refine g_if_le (off := 7) (tgt := 101) (by decide +kernel) (by decide) r9 (fun h94 => ?_) (fun h94 => ?_)
  · refine g_iconst (a := 0) (by decide +kernel) ?_
    refine g_iadd (by decide +kernel) ?_
    refine g_iast (j := k) (by decide +kernel) (by omega) rfl (by omega) (by omega) (by decide) ?_
    exact kk _ (by first | (rw [if_pos (by omega)]) | (rw [if_neg (by omega)]))
  · refine g_iconst (a := 1) (by decide +kernel) ?_
    refine g_goto (off := 4) (tgt := 102) (by decide +kernel) (by decide) ?_
    refine g_iadd (by decide +kernel) ?_
    refine g_iast (j := k) (by decide +kernel) (by omega) rfl (by omega) (by omega) (by decide) ?_
    exact kk _ (by first | (rw [if_pos (by omega)]) | (rw [if_neg (by omega)]))
theorem sb_Md_laysLights {G : zG} {X : zX} {n : Nat} {T i k : Nat} {τ : zSt} (hn : 220 ≤ n) (hk : k < 12) {post : zPost} (r2 : zr (τ 202 (72 + k))) (kk : ∀ v : Int, v = τ 213 k + (if τ 202 (72 + k) = 2 then 1 else 0) → Go G X m_Md_laysLights (18, 0, 0, 0, 0) n SH (zs τ 213 k v) 126 [(0, vr G 189), (1, vi (T : Int)), (2, vi (i : Int)), (3, vi (k : Int))] [] post) : Go G X m_Md_laysLights (18, 0, 0, 0, 0) n SH τ 104 [(0, vr G 189), (1, vi (T : Int)), (2, vi (i : Int)), (3, vi (k : Int))] [] post := by
  refine g_aload_n (i := 0) (by decide +kernel) rfl ?_
  refine g_getr f_Md_121 (by decide +kernel) (by omega) rfl rfl ?_
  refine g_iload_n (i := 3) (by decide +kernel) rfl ?_
  refine g_dup2 (by decide +kernel) rfl rfl ?_
  refine g_iald (j := k) (by decide +kernel) (by omega) rfl (by omega) (by omega) (by decide) ?_
  refine g_aload_n (i := 0) (by decide +kernel) rfl ?_
  refine g_iload_n (i := 3) (by decide +kernel) rfl ?_
  refine g_cVI (st := _) (c_Md_plays (k := k) hn hk r2) k_Md_plays l_Md_421 (by decide +kernel) (by omega) rfl rfl rfl rfl (Nat.le_of_ble_eq_true rfl) (by decide) ⟨by decide, by decide⟩ ?_
  rintro a9 σ9 ⟨ea9, hσ9⟩
  obtain rfl := hσ9.symm
  subst ea9
  refine g_if_eq (off := 7) (tgt := 123) (by decide +kernel) (by decide) zbr (fun h116 => ?_) (fun h116 => ?_)
  · have h116 := zb0.mp h116
    refine g_iconst (a := 0) (by decide +kernel) ?_
    refine g_iadd (by decide +kernel) ?_
    refine g_iast (j := k) (by decide +kernel) (by omega) rfl (by omega) (by omega) (by decide) ?_
    exact kk _ (by first | (rw [if_pos (by omega)]) | (rw [if_neg (by omega)]))
  · have h116 := zb1.mp h116
    refine g_iconst (a := 1) (by decide +kernel) ?_
    refine g_goto (off := 4) (tgt := 124) (by decide +kernel) (by decide) ?_
    refine g_iadd (by decide +kernel) ?_
    refine g_iast (j := k) (by decide +kernel) (by omega) rfl (by omega) (by omega) (by decide) ?_
    exact kk _ (by first | (rw [if_pos (by omega)]) | (rw [if_neg (by omega)]))
theorem sc_Md_laysLights {G : zG} {X : zX} {n : Nat} {T i k : Nat} {τ : zSt} (hn : 220 ≤ n) (hk : k < 12) {post : zPost} (r9 : zr (τ 209 k)) (r12 : zr (τ 212 k)) (kk : ∀ v : Int, v = (if τ 212 k < τ 209 k then (T : Int) else τ 211 k) → Go G X m_Md_laysLights (18, 0, 0, 0, 0) n SH (zs τ 211 k v) 157 [(0, vr G 189), (1, vi (T : Int)), (2, vi (i : Int)), (3, vi (k : Int))] [] post) : Go G X m_Md_laysLights (18, 0, 0, 0, 0) n SH τ 126 [(0, vr G 189), (1, vi (T : Int)), (2, vi (i : Int)), (3, vi (k : Int))] [] post := by
  refine g_aload_n (i := 0) (by decide +kernel) rfl ?_
  refine g_getr f_Md_115 (by decide +kernel) (by omega) rfl rfl ?_
  refine g_iload_n (i := 3) (by decide +kernel) rfl ?_
  refine g_aload_n (i := 0) (by decide +kernel) rfl ?_
  refine g_getr f_Md_109 (by decide +kernel) (by omega) rfl rfl ?_
  refine g_iload_n (i := 3) (by decide +kernel) rfl ?_
  refine g_iald (j := k) (by decide +kernel) (by omega) rfl (by omega) (by omega) (by decide) ?_
  refine g_aload_n (i := 0) (by decide +kernel) rfl ?_
  refine g_getr f_Md_118 (by decide +kernel) (by omega) rfl rfl ?_
  refine g_iload_n (i := 3) (by decide +kernel) rfl ?_
  refine g_iald (j := k) (by decide +kernel) (by omega) rfl (by omega) (by omega) (by decide) ?_
  refine g_icmp_le (off := 7) (tgt := 150) (by decide +kernel) (by decide) r9 r12 (fun h143 => ?_) (fun h143 => ?_)
  · refine g_aload_n (i := 0) (by decide +kernel) rfl ?_
    refine g_getr f_Md_115 (by decide +kernel) (by omega) rfl rfl ?_
    refine g_iload_n (i := 3) (by decide +kernel) rfl ?_
    refine g_iald (j := k) (by decide +kernel) (by omega) rfl (by omega) (by omega) (by decide) ?_
    refine g_iast (j := k) (by decide +kernel) (by omega) rfl (by omega) (by omega) (by decide) ?_
    exact kk _ (by first | (rw [if_pos (by omega)]) | (rw [if_neg (by omega)]))
  · refine g_iload_n (i := 1) (by decide +kernel) rfl ?_
    refine g_goto (off := 9) (tgt := 156) (by decide +kernel) (by decide) ?_
    refine g_iast (j := k) (by decide +kernel) (by omega) rfl (by omega) (by omega) (by decide) ?_
    exact kk _ (by first | (rw [if_pos (by omega)]) | (rw [if_neg (by omega)]))
theorem sd_Md_laysLights {G : zG} {X : zX} {n : Nat} {T i k : Nat} {τ : zSt} (hn : 220 ≤ n) (hk : k < 12) {post : zPost} (r9 : zr (τ 209 k)) (r12 : zr (τ 212 k)) (kk : ∀ v : Int, v = (if τ 212 k < τ 209 k then τ 209 k else τ 212 k) → Go G X m_Md_laysLights (18, 0, 0, 0, 0) n SH (zs τ 212 k v) 193 [(0, vr G 189), (1, vi (T : Int)), (2, vi (i : Int)), (3, vi (k : Int))] [] post) : Go G X m_Md_laysLights (18, 0, 0, 0, 0) n SH τ 157 [(0, vr G 189), (1, vi (T : Int)), (2, vi (i : Int)), (3, vi (k : Int))] [] post := by
  refine g_aload_n (i := 0) (by decide +kernel) rfl ?_
  refine g_getr f_Md_118 (by decide +kernel) (by omega) rfl rfl ?_
  refine g_iload_n (i := 3) (by decide +kernel) rfl ?_
  refine g_aload_n (i := 0) (by decide +kernel) rfl ?_
  refine g_getr f_Md_109 (by decide +kernel) (by omega) rfl rfl ?_
  refine g_iload_n (i := 3) (by decide +kernel) rfl ?_
  refine g_iald (j := k) (by decide +kernel) (by omega) rfl (by omega) (by omega) (by decide) ?_
  refine g_aload_n (i := 0) (by decide +kernel) rfl ?_
  refine g_getr f_Md_118 (by decide +kernel) (by omega) rfl rfl ?_
  refine g_iload_n (i := 3) (by decide +kernel) rfl ?_
  refine g_iald (j := k) (by decide +kernel) (by omega) rfl (by omega) (by omega) (by decide) ?_
  refine g_icmp_le (off := 12) (tgt := 186) (by decide +kernel) (by decide) r9 r12 (fun h174 => ?_) (fun h174 => ?_)
  · refine g_aload_n (i := 0) (by decide +kernel) rfl ?_
    refine g_getr f_Md_118 (by decide +kernel) (by omega) rfl rfl ?_
    refine g_iload_n (i := 3) (by decide +kernel) rfl ?_
    refine g_iald (j := k) (by decide +kernel) (by omega) rfl (by omega) (by omega) (by decide) ?_
    refine g_iast (j := k) (by decide +kernel) (by omega) rfl (by omega) (by omega) (by decide) ?_
    exact kk _ (by first | (rw [if_pos (by omega)]) | (rw [if_neg (by omega)]))
  · refine g_aload_n (i := 0) (by decide +kernel) rfl ?_
    refine g_getr f_Md_109 (by decide +kernel) (by omega) rfl rfl ?_
    refine g_iload_n (i := 3) (by decide +kernel) rfl ?_
    refine g_iald (j := k) (by decide +kernel) (by omega) rfl (by omega) (by omega) (by decide) ?_
    refine g_goto (off := 9) (tgt := 192) (by decide +kernel) (by decide) ?_
    refine g_iast (j := k) (by decide +kernel) (by omega) rfl (by omega) (by omega) (by decide) ?_
    exact kk _ (by first | (rw [if_pos (by omega)]) | (rw [if_neg (by omega)]))
section LG
variable {S : zSt} {k T : Nat} {sd : Nat → Int}
theorem zgr_b (h : zMz S) (hs : zStand S sd (zlvs S)) (hk : k < zN S) (lk : S 1 k = 0) : ∀ T, 0 ≤ (zgr (fun s => zv S (s : Int) 7 k) (-1) T).1 ∧ (zgr (fun s => zv S (s : Int) 7 k) (-1) T).1 ≤ 100
  | 0 => ⟨Int.le_refl 0, show (0 : Int) ≤ 100 by decide⟩
  | T + 1 => by
    have a := zgr_b h hs hk lk T
    have b := zv_s7 (t := (T : Int)) h hs hk lk
    rw [zgr_s]
    split
    · exact b
    · exact a
theorem zLq_step {τ : zSt} (q : zLq τ S k T) {u : zSt} (h9 : τ 209 k = zv S (T : Int) 7 k) (h2 : τ 202 (72 + k) = zv S (T : Int) 1 k) (u10 : u 210 k = τ 210 k + (if 0 < τ 209 k then 1 else 0)) (u13 : u 213 k = τ 213 k + (if τ 202 (72 + k) = 2 then 1 else 0)) (u11 : u 211 k = (if τ 212 k < τ 209 k then (T : Int) else τ 211 k)) (u12 : u 212 k = (if τ 212 k < τ 209 k then τ 209 k else τ 212 k)) : zLq u S k (T + 1) := by
  obtain ⟨a, b, c, d⟩ := q
  refine ⟨?_, ?_, ?_, ?_⟩
  · rw [u10, a, h9]
    by_cases z : 0 < zv S (T : Int) 7 k
    · rw [zcnt_t (decide_eq_true z), if_pos z]; push_cast; rfl
    · rw [zcnt_f (decide_eq_false z), if_neg z]; omega
  · rw [u13, b, h2]
    by_cases z : zv S (T : Int) 1 k = 2
    · rw [zcnt_t (decide_eq_true z), if_pos z]; push_cast; rfl
    · rw [zcnt_f (decide_eq_false z), if_neg z]; omega
  · rw [u12, c, h9, zgr_s]
    split <;> rfl
  · rw [u11, c, d, h9, zgr_s]
    split <;> rfl
end LG
theorem w2_Md_laysLights {G : zG} {X : zX} {n : Nat} {σ : zSt} {S : zSt} {T : Nat} {sd : Nat → Int} (hn : 220 ≤ n) (hM : zMz S) (hT : T < 2000) (hsd : zStand S sd (zlvs S)) {post : zPost} (kk : ∀ τ, zFg σ τ → zLs τ S → τ 208 = sd → (∀ j, j < zlvs S → zLq τ S (sd j).toNat (T + 1)) → Go G X m_Md_laysLights (18, 0, 0, 0, 0) n SH τ 199 [(0, vr G 189), (1, vi (T : Int))] [] post)  : ∀ (m : Nat) (i : Nat) (x2 : Int) (τ : zSt) (L3 : List (Nat × Value)), x2 = (i : Int) → zFg σ τ → zLs τ S → τ 208 = sd → zSo2 τ S 6 (T : Int) (zN S) → (∀ k, k < zN S → S 1 k = 0 → τ 209 k = zv S (T : Int) 7 k) → (∀ j, j < zlvs S → zLq τ S (sd j).toNat (if j < i then T + 1 else T)) → (L3 = [] ∨ ∃ v, L3 = [(3, vi v)]) → i ≤ zlvs S → zlvs S < i + m → Go G X m_Md_laysLights (18, 0, 0, 0, 0) n SH τ 66 ([(0, vr G 189), (1, vi (T : Int)), (2, vi x2)] ++ L3) [] (post) := by
  intro m
  induction m with
  | zero => intro i x2 τ L3 e2 hF hL e8 h6 h9 hq h3 hi hm; exact absurd hm (by omega)
  | succ m ih =>
    intro i x2 τ L3 e2 hF hL e8 h6 h9 hq h3 hi hm
    have hN := hL.1.2.1.N
    have hz : zN S = (S 0 0).toNat := rfl
    have lz : zlvs S ≤ zN S := zcnt_le _ _
    have l35 := hL.2.1
    subst e2
    refine g_less [0, 1, 2] (L' := [(0, vr G 189), (1, vi (T : Int)), (2, vi (i : Int))]) (by rcases h3 with rfl | ⟨v, rfl⟩ <;> rfl) ?_
    refine g_iload_n (i := 2) (by decide +kernel) rfl ?_
    refine g_aload_n (i := 0) (by decide +kernel) rfl ?_
    refine g_geti f_Md_403 (by decide +kernel) (by omega) rfl rfl ?_
    refine g_icmp_ge (off := 128) (tgt := 199) (by decide +kernel) (by decide) ⟨by omega, by omega⟩ ⟨by omega, by omega⟩ (fun h71 => ?_) (fun h71 => ?_)
    · refine g_less [0, 1] rfl ?_
      rw [show i = zlvs S by omega] at hq
      exact kk τ hF hL e8 (fun j hj => by have := hq j hj; rw [if_pos hj] at this; exact this)
    · have q := hsd i (by omega)
      obtain ⟨k, ek⟩ := Int.eq_ofNat_of_zero_le q.1
      have ek2 : (sd i).toNat = k := by omega
      have t8 : τ 208 i = (k : Int) := by rw [e8]; exact ek
      have lq := hq i (by omega)
      rw [if_neg (by omega), ek2] at lq
      rw [ek2] at q
      have k9 := h9 k q.2.1 q.2.2.1
      have k2 := (zS6 h6 q.2.1).1
      have b9 := zv_s7 (t := (T : Int)) hM hsd q.2.1 q.2.2.1
      have b2 := zv_st (t := (T : Int)) hM q.2.1
      have b12 := zgr_b hM hsd q.2.1 q.2.2.1 T
      rw [← lq.2.2.1] at b12
      have k12 : k < 12 := by omega
      refine g_aload_n (i := 0) (by decide +kernel) rfl ?_
      refine g_getr f_Md_106 (by decide +kernel) (by omega) rfl rfl ?_
      refine g_iload_n (i := 2) (by decide +kernel) rfl ?_
      refine g_iald (j := i) (by decide +kernel) (by omega) rfl (by omega) (by omega) (by decide) ?_
      rw [t8]
      refine g_istore_n (i := 3) (L' := [(0, _), (1, _), (2, _), (3, _)]) (by decide +kernel) rfl rfl ?_
      refine sa_Md_laysLights (τ := τ) hn k12 ⟨by omega, by omega⟩ (fun v1 hv1 => ?_)
      refine sb_Md_laysLights (τ := zs τ 210 k v1) hn k12 (by rw [zs_other (by decide)]; exact ⟨by omega, by omega⟩) (fun v2 hv2 => ?_)
      rw [zs_other (show 213 ≠ 210 by decide), zs_other (show 202 ≠ 210 by decide)] at hv2
      refine sc_Md_laysLights (τ := zs (zs τ 210 k v1) 213 k v2) hn k12 (by rw [zs_other (by decide), zs_other (by decide)]; exact ⟨by omega, by omega⟩) (by rw [zs_other (by decide), zs_other (by decide)]; exact ⟨by omega, by omega⟩) (fun v3 hv3 => ?_)
      rw [zs_other (show 212 ≠ 213 by decide), zs_other (show 212 ≠ 210 by decide), zs_other (show 209 ≠ 213 by decide), zs_other (show 209 ≠ 210 by decide), zs_other (show 211 ≠ 213 by decide), zs_other (show 211 ≠ 210 by decide)] at hv3
      refine sd_Md_laysLights (τ := zs (zs (zs τ 210 k v1) 213 k v2) 211 k v3) hn k12 (by rw [zs_other (by decide), zs_other (by decide), zs_other (by decide)]; exact ⟨by omega, by omega⟩) (by rw [zs_other (by decide), zs_other (by decide), zs_other (by decide)]; exact ⟨by omega, by omega⟩) (fun v4 hv4 => ?_)
      rw [zs_other (show 212 ≠ 211 by decide), zs_other (show 212 ≠ 213 by decide), zs_other (show 212 ≠ 210 by decide), zs_other (show 209 ≠ 211 by decide), zs_other (show 209 ≠ 213 by decide), zs_other (show 209 ≠ 210 by decide)] at hv4
      obtain ⟨υ, eυ⟩ : ∃ υ, υ = zs (zs (zs (zs τ 210 k v1) 213 k v2) 211 k v3) 212 k v4 := ⟨_, rfl⟩
      rw [← eυ]
      have uo : ∀ a, (a < 210 ∨ 213 < a) → υ a = τ a := fun a ha => by rw [eυ, zs_other (by omega), zs_other (by omega), zs_other (by omega), zs_other (by omega)]
      have uk : ∀ a, (210 ≤ a ∧ a ≤ 213) → ∀ j, j ≠ k → υ a j = τ a j := fun a ha j hj => by rw [eυ, zs_ne (fun y => hj y.2), zs_ne (fun y => hj y.2), zs_ne (fun y => hj y.2), zs_ne (fun y => hj y.2)]
      have st1 : zLq υ S k (T + 1) := zLq_step lq k9 k2 (by rw [eυ, zs_other (by decide), zs_other (by decide), zs_other (by decide), zs_eq]; exact hv1) (by rw [eυ, zs_other (by decide), zs_other (by decide), zs_eq]; exact hv2) (by rw [eυ, zs_other (by decide), zs_eq]; exact hv3) (by rw [eυ, zs_eq]; exact hv4)
      refine g_iinc (i := 2) (b := 1) (L' := [(0, _), (1, _), (2, _), (3, _)]) (by decide +kernel) rfl rfl rfl ?_
      refine g_goto (off := -130) (tgt := 66) (by decide +kernel) (by decide) ?_
      refine ih (i + 1) _ υ [(3, vi (k : Int))] (by push_cast; rfl) ⟨fun a ha => by rw [uo a (by omega)]; exact hF.1 a ha, fun j hj => by rw [uo 189 (by omega)]; exact hF.2 j hj⟩ ⟨hL.1.moved (fun a ha => uo a (by omega)), by rw [uo 189 (by omega)]; exact hL.2.1, by rw [uo 208 (by omega)]; exact hL.2.2⟩ (by rw [uo 208 (by omega)]; exact e8) (h6.moved (fun a ha => uo a (by omega))) (fun k hk lk => by rw [uo 209 (by omega)]; exact h9 k hk lk) (fun j hj => ?_) (Or.inr ⟨_, rfl⟩) (by omega) (by omega)
      by_cases z : j = i
      · rw [z, if_pos (by omega), ek2]; exact st1
      · have qj := hsd j hj
        have ne : (sd j).toNat ≠ k := fun y => z (by have a := qj.2.2.2; have b := q.2.2.2; rw [y] at a; omega)
        have old := hq j hj
        rw [show (if j < i + 1 then T + 1 else T) = (if j < i then T + 1 else T) by split <;> split <;> omega]
        exact old.moved (fun a ha => uk a ha _ ne)
theorem w1_Md_laysLights {G : zG} {X : zX} {n : Nat} {σ : zSt} {S : zSt} (hn : 220 ≤ n) (hM : zMz S) {sd : Nat → Int} (hsd : zStand S sd (zlvs S))  : ∀ (m : Nat) (T : Nat) (x1 : Int) (τ : zSt), x1 = (T : Int) → zFg σ τ → zLs τ S → τ 208 = sd → (∀ j, j < zlvs S → zLq τ S (sd j).toNat T) → T ≤ 2000 → 2000 < T + m → Go G X m_Md_laysLights (18, 0, 0, 0, 0) n SH τ 52 [(0, vr G 189), (1, vi x1)] [] (zV n SH (fun σ' => zFg σ σ' ∧ zLs σ' S ∧ ∀ k, k < zN S → S 1 k = 0 → zLq σ' S k 2000)) := by
  intro m
  induction m with
  | zero => intro T x1 τ e1 hF hL e8 hq hi hm; exact absurd hm (by omega)
  | succ m ih =>
    intro T x1 τ e1 hF hL e8 hq hi hm
    subst e1
    refine g_iload_n (i := 1) (by decide +kernel) rfl ?_
    refine g_sipush (a := 1999) (by decide +kernel) (by decide) ?_
    refine g_icmp_gt (off := 149) (tgt := 205) (by decide +kernel) (by decide) ⟨by omega, by omega⟩ ⟨by omega, by omega⟩ (fun h56 => ?_) (fun h56 => ?_)
    · refine g_retV (by decide +kernel) rfl ⟨by decide, by decide⟩ ?_
      rw [show T = 2000 by omega] at hq
      refine ⟨hF, hL, fun k hk lk => ?_⟩
      obtain ⟨i, hi, rfl⟩ := hsd.all hk lk
      exact hq i hi
    · refine g_aload_n (i := 0) (by decide +kernel) rfl ?_
      refine g_iload_n (i := 1) (by decide +kernel) rfl ?_
      refine g_cVV (st := _) (c_Md_laysShares (t := (T : Int)) hn hL ⟨by omega, by omega⟩) k_Md_laysShares l_Md_415 (by decide +kernel) (by omega) rfl rfl rfl rfl (Nat.le_of_ble_eq_true rfl) (by decide) ⟨by decide, by decide⟩ ?_
      rintro υ ⟨g1, g2, g3, g4, g5, g6⟩
      refine g_iconst (a := 0) (by decide +kernel) ?_
      refine g_istore_n (i := 2) (L' := [(0, _), (1, _), (2, _)]) (by decide +kernel) rfl rfl ?_
      refine w2_Md_laysLights (σ := σ) hn hM (by omega) hsd (fun ω f1 f2 f3 f4 => ?_) (zlvs S + 1) 0 _ υ [] rfl ⟨fun a ha => by rw [g1 a (by omega)]; exact hF.1 a ha, fun j hj => by rw [g2 j hj]; exact hF.2 j hj⟩ g3 (by rw [g1 208 (by omega)]; exact e8) g4 g5 (fun j hj => by rw [if_neg (by omega)]; exact (hq j hj).moved (fun a ha => by rw [g1 a (by omega)])) (Or.inl rfl) (by omega) (by omega)
      refine g_iinc (i := 1) (b := 1) (L' := [(0, _), (1, _)]) (by decide +kernel) rfl rfl rfl ?_
      refine g_goto (off := -150) (tgt := 52) (by decide +kernel) (by decide) ?_
      exact ih (T + 1) _ ω (by push_cast; rfl) f1 f2 f3 f4 (by omega) (by omega)
theorem w0_Md_laysLights {G : zG} {X : zX} {n : Nat} {σ : zSt} {S : zSt} (hn : 220 ≤ n) (hM : zMz S) {sd : Nat → Int} (hsd : zStand S sd (zlvs S))  : ∀ (m : Nat) (i : Nat) (x1 : Int) (τ : zSt), x1 = (i : Int) → zFg σ τ → zLs τ S → τ 208 = sd → (∀ k, k < i → zLq τ S k 0) → i ≤ 12 → 12 < i + m → Go G X m_Md_laysLights (18, 0, 0, 0, 0) n SH τ 10 [(0, vr G 189), (1, vi x1)] [] (zV n SH (fun σ' => zFg σ σ' ∧ zLs σ' S ∧ ∀ k, k < zN S → S 1 k = 0 → zLq σ' S k 2000)) := by
  intro m
  induction m with
  | zero => intro i x1 τ e1 hF hL e8 hq hi hm; exact absurd hm (by omega)
  | succ m ih =>
    intro i x1 τ e1 hF hL e8 hq hi hm
    subst e1
    refine g_iload_n (i := 1) (by decide +kernel) rfl ?_
    refine g_bipush (a := 12) (by decide +kernel) (by decide) ?_
    refine g_icmp_ge (off := 37) (tgt := 50) (by decide +kernel) (by decide) ⟨by omega, by omega⟩ ⟨by omega, by omega⟩ (fun h13 => ?_) (fun h13 => ?_)
    · refine g_iconst (a := 0) (by decide +kernel) ?_
      refine g_istore_n (i := 1) (L' := [(0, _), (1, _)]) (by decide +kernel) rfl rfl ?_
      exact w1_Md_laysLights (σ := σ) hn hM hsd 2001 0 _ τ rfl hF hL e8 (fun j hj => hq _ (by have := (hsd j hj).2.1; have := hL.1.2.1.N; have hz : zN S = (S 0 0).toNat := rfl; omega)) (by omega) (by omega)
    · refine g_aload_n (i := 0) (by decide +kernel) rfl ?_
      refine g_getr f_Md_112 (by decide +kernel) (by omega) rfl rfl ?_
      refine g_iload_n (i := 1) (by decide +kernel) rfl ?_
      refine g_iconst (a := 0) (by decide +kernel) ?_
      refine g_iast (j := i) (by decide +kernel) (by omega) rfl (by omega) (by omega) (by decide) ?_
      refine g_aload_n (i := 0) (by decide +kernel) rfl ?_
      refine g_getr f_Md_115 (by decide +kernel) (by omega) rfl rfl ?_
      refine g_iload_n (i := 1) (by decide +kernel) rfl ?_
      refine g_iconst (a := -1) (by decide +kernel) ?_
      refine g_iast (j := i) (by decide +kernel) (by omega) rfl (by omega) (by omega) (by decide) ?_
      refine g_aload_n (i := 0) (by decide +kernel) rfl ?_
      refine g_getr f_Md_118 (by decide +kernel) (by omega) rfl rfl ?_
      refine g_iload_n (i := 1) (by decide +kernel) rfl ?_
      refine g_iconst (a := 0) (by decide +kernel) ?_
      refine g_iast (j := i) (by decide +kernel) (by omega) rfl (by omega) (by omega) (by decide) ?_
      refine g_aload_n (i := 0) (by decide +kernel) rfl ?_
      refine g_getr f_Md_121 (by decide +kernel) (by omega) rfl rfl ?_
      refine g_iload_n (i := 1) (by decide +kernel) rfl ?_
      refine g_iconst (a := 0) (by decide +kernel) ?_
      refine g_iast (j := i) (by decide +kernel) (by omega) rfl (by omega) (by omega) (by decide) ?_
      refine g_iinc (i := 1) (b := 1) (L' := [(0, _), (1, _)]) (by decide +kernel) rfl rfl rfl ?_
      refine g_goto (off := -37) (tgt := 10) (by decide +kernel) (by decide) ?_
      obtain ⟨υ, eυ⟩ : ∃ υ, υ = zs (zs (zs (zs τ 210 i 0) 211 i (-1)) 212 i 0) 213 i 0 := ⟨_, rfl⟩
      rw [← eυ]
      have uo : ∀ a, (a < 210 ∨ 213 < a) → υ a = τ a := fun a ha => by rw [eυ, zs_other (by omega), zs_other (by omega), zs_other (by omega), zs_other (by omega)]
      refine ih (i + 1) _ υ (by push_cast; rfl) ⟨fun a ha => by rw [uo a (by omega)]; exact hF.1 a ha, fun j hj => by rw [uo 189 (by omega)]; exact hF.2 j hj⟩ ⟨hL.1.moved (fun a ha => uo a (by omega)), by rw [uo 189 (by omega)]; exact hL.2.1, by rw [uo 208 (by omega)]; exact hL.2.2⟩ (by rw [uo 208 (by omega)]; exact e8) (fun k hk => ?_) (by omega) (by omega)
      by_cases z : k = i
      · subst z
        rw [eυ]
        refine ⟨?_, ?_, ?_, ?_⟩
        · rw [zs_other (by decide), zs_other (by decide), zs_other (by decide), zs_eq]; rfl
        · rw [zs_eq]; rfl
        · rw [zs_other (by decide), zs_eq]; rfl
        · rw [zs_other (by decide), zs_other (by decide), zs_eq]; rfl
      · exact (hq k (by omega)).moved (fun a ha => by rw [eυ, zs_ne (fun y => z y.2), zs_ne (fun y => z y.2), zs_ne (fun y => z y.2), zs_ne (fun y => z y.2)])
theorem c_Md_laysLights {G : zG} {n : Nat} {σ : zSt} {S : zSt} (hn : 220 ≤ n) (hM : zMz S) (hS : zMc σ S)  : Gm G y_Md_laysLights m_Md_laysLights 18 0 0 [vr G 189] n SH σ (zV n SH (fun σ' => (∀ a, (a < 189 ∨ a = 190 ∨ (195 < a ∧ a < 202) ∨ 213 < a) → σ' a = σ a) ∧ (∀ j, j ≠ 35 → j ≠ 36 → σ' 189 j = σ 189 j) ∧ zLs σ' S ∧ ∀ k, k < zN S → S 1 k = 0 → zLq σ' S k 2000)) := by
  refine g_enter (L := [(0, _)]) (by decide) rfl rfl rfl (Nat.le_of_ble_eq_true rfl) (fun X => ?_)
  refine g_aload_n (i := 0) (by decide +kernel) rfl ?_
  refine g_cVV (st := _) (c_Md_laysPresses hn hM hS) k_Md_laysPresses l_Md_375 (by decide +kernel) (by omega) rfl rfl rfl rfl (Nat.le_of_ble_eq_true rfl) (by decide) ⟨by decide, by decide⟩ ?_
  rintro υ ⟨hf, hP⟩
  refine g_aload_n (i := 0) (by decide +kernel) rfl ?_
  refine g_cVV (st := _) (c_Md_laysStanding hn hP.2.1) k_Md_laysStanding l_Md_412 (by decide +kernel) (by omega) rfl rfl rfl rfl (Nat.le_of_ble_eq_true rfl) (by decide) ⟨by decide, by decide⟩ ?_
  rintro ρ ⟨l1, l2, l3, l4⟩
  have hL : zLs ρ S := ⟨hP.moved (fun a ha => l1 a (by omega) (by omega)), l3, l4⟩
  refine g_iconst (a := 0) (by decide +kernel) ?_
  refine g_istore_n (i := 1) (L' := [(0, _), (1, _)]) (by decide +kernel) rfl rfl ?_
  refine Go.mono (w0_Md_laysLights (σ := ρ) hn hM l4 13 0 _ ρ rfl ⟨fun _ _ => rfl, fun _ _ => rfl⟩ hL rfl (fun k hk => by omega) (by omega) (by omega)) ?_
  rintro r n' sh' σ' ⟨⟨ea, e1, e2, e3⟩, e4, e5⟩
  exact ⟨⟨ea, fun a ha => by rw [e1.1 a (by omega), l1 a (by omega) (by omega)]; exact hf a (by omega), fun j j1 j2 => by rw [e1.2 j j2, l2 j j1, hf 189 (by omega)], e2, e3⟩, e4, e5⟩
