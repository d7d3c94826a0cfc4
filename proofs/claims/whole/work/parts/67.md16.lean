/-! UNLIKE FRAMES AND SPANS of the reference -/
theorem zTm.p {υ S : zSt} {k T t : Nat} (h : zTm υ S k T) (hM : zMz S) (hk : k < zN S) (ht : t < T) : ((υ 214 t = 0 ∧ zplay S k t = -1) ∨ (υ 214 t = 1 ∧ zplay S k t = υ 215 t ∧ 0 ≤ υ 215 t)) ∧ -1 ≤ υ 215 t ∧ υ 215 t ≤ 80109810 := by
  have q := h t ht
  have rg := (zv_rg (t := (t : Int)) hM hk).1
  refine ⟨?_, by omega, by omega⟩
  unfold zplay
  by_cases z : zv S (t : Int) 1 k = 2
  · have := (zv_run hM hk (Or.inl z)).2.2.1
    rw [if_pos z] at q ⊢
    exact Or.inr ⟨q.1, q.2.symm, by omega⟩
  · rw [if_neg z] at q ⊢
    exact Or.inl ⟨q.1, rfl⟩
theorem zah_s (p : Nat → Int) (t : Nat) : zah p (t + 1) = p t := by unfold zah; rw [if_neg (by omega)]; rfl
/-- t shows a frame that none from f on has shown -/
def zuC (p : Nat → Int) (f t : Nat) : Prop := decide (f ≤ t ∧ p t ≠ -1) = true ∧ ∀ i, i < t → decide (f ≤ i ∧ p i ≠ -1) = true → p i ≠ p t
theorem zun_from (p : Nat → Int) (B f : Nat) : zun B (fun s => decide (f ≤ s ∧ p s ≠ -1)) p f = 0 := by
  rw [zun_same (n' := 0) (q' := fun _ => true) (f' := p) (fun v => ⟨?_, ?_⟩), zun_0]
  · rintro ⟨i, hi, h, -⟩
    have := (of_decide_eq_true h).1
    omega
  · rintro ⟨i, hi, -⟩
    omega
theorem c_Md_isFirst {G : zG} {n : Nat} {σ : zSt} {S : zSt} {k t : Nat} (hn : 220 ≤ n) (hM : zMz S) (hq : zTm σ S k 2000) (kN : k < zN S) (ht : t < 2000) : Gm G y_Md_isFirst m_Md_isFirst 0 0 0 [vr G 189, vi (t : Int)] n SH σ (zI n SH (fun a σ' => a = (if zplay S k t ≠ -1 ∧ zah (zplay S k) t = -1 then 1 else 0) ∧ σ' = σ)) := by
  refine g_enter (L := [(0, _), (1, _)]) (by decide) rfl rfl rfl (Nat.le_of_ble_eq_true rfl) (fun X => ?_)
  have q := hq.p hM kN ht
  have za : (t = 0 ∧ zah (zplay S k) t = -1) ∨ (0 < t ∧ zah (zplay S k) t = zplay S k (t - 1) ∧ ((σ 214 (t - 1) = 0 ∧ zplay S k (t - 1) = -1) ∨ (σ 214 (t - 1) = 1 ∧ 0 ≤ zplay S k (t - 1)))) := by
    by_cases t0 : t = 0
    · exact Or.inl ⟨t0, by unfold zah; rw [if_pos t0]⟩
    · have q1 := hq.p hM kN (show t - 1 < 2000 by omega)
      exact Or.inr ⟨by omega, by unfold zah; rw [if_neg t0], by omega⟩
  refine g_aload_n (i := 0) (by decide +kernel) rfl ?_
  refine g_getr f_Md_124 (by decide +kernel) (by omega) rfl rfl ?_
  refine g_iload_n (i := 1) (by decide +kernel) rfl ?_
  refine g_zald (j := t) (by decide +kernel) (by omega) rfl (by omega) (by omega) (by decide) ?_
  refine g_if_eq (off := 22) (tgt := 28) (by decide +kernel) (by decide) ⟨by omega, by omega⟩ (fun h6 => ?_) (fun h6 => ?_)
  · refine g_iconst (a := 0) (by decide +kernel) ?_
    refine g_retI (by decide +kernel) rfl (Or.inr ⟨rfl, by omega⟩) ⟨by decide, by decide⟩ ?_
    refine ⟨?_, rfl⟩
    first
      | rw [if_pos (by omega)]
      | rw [if_neg (by omega)]
  · refine g_iload_n (i := 1) (by decide +kernel) rfl ?_
    refine g_if_eq (off := 14) (tgt := 24) (by decide +kernel) (by decide) ⟨by omega, by omega⟩ (fun h10 => ?_) (fun h10 => ?_)
    · refine g_iconst (a := 1) (by decide +kernel) ?_
      refine g_goto (off := 4) (tgt := 29) (by decide +kernel) (by decide) ?_
      refine g_retI (by decide +kernel) rfl (Or.inr ⟨rfl, by omega⟩) ⟨by decide, by decide⟩ ?_
      refine ⟨?_, rfl⟩
      first
        | rw [if_pos (by omega)]
        | rw [if_neg (by omega)]
    · refine g_aload_n (i := 0) (by decide +kernel) rfl ?_
      refine g_getr f_Md_124 (by decide +kernel) (by omega) rfl rfl ?_
      refine g_iload_n (i := 1) (by decide +kernel) rfl ?_
      refine g_iconst (a := 1) (by decide +kernel) ?_
      refine g_isub (by decide +kernel) ?_
      refine g_zald (j := (t - 1)) (by decide +kernel) (by omega) rfl (by omega) (by omega) (by decide) ?_
      refine g_if_ne (off := 7) (tgt := 28) (by decide +kernel) (by decide) ⟨by omega, by omega⟩ (fun h21 => ?_) (fun h21 => ?_)
      · refine g_iconst (a := 0) (by decide +kernel) ?_
        refine g_retI (by decide +kernel) rfl (Or.inr ⟨rfl, by omega⟩) ⟨by decide, by decide⟩ ?_
        refine ⟨?_, rfl⟩
        first
          | rw [if_pos (by omega)]
          | rw [if_neg (by omega)]
      · refine g_iconst (a := 1) (by decide +kernel) ?_
        refine g_goto (off := 4) (tgt := 29) (by decide +kernel) (by decide) ?_
        refine g_retI (by decide +kernel) rfl (Or.inr ⟨rfl, by omega⟩) ⟨by decide, by decide⟩ ?_
        refine ⟨?_, rfl⟩
        first
          | rw [if_pos (by omega)]
          | rw [if_neg (by omega)]
theorem w2_Md_unlike {G : zG} {X : zX} {n : Nat} {σ : zSt} {l x3 : Int} {post : zPost} {S : zSt} {k f t : Nat} (hn : 220 ≤ n) (hM : zMz S) (hq : zTm σ S k 2000) (kN : k < zN S) (ht : t < 2000) (ft : f ≤ t) (kk : ∀ x5 x6 : Int, ((x5 = 1 ∧ zuC (zplay S k) f t) ∨ (x5 = 0 ∧ ¬ zuC (zplay S k) f t)) → Go G X m_Md_unlike (0, 0, 0, 0, 0) n SH σ 76 [(0, vr G 189), (1, vi (f : Int)), (2, vi l), (3, vi x3), (4, vi (t : Int)), (5, vi x5), (6, vi x6)] [] post) : ∀ (m : Nat) (s : Nat) (x5 x6 : Int), x6 = (s : Int) → ((x5 = 1 ∧ zplay S k t ≠ -1 ∧ ∀ j, f ≤ j → j < s → zplay S k j ≠ -1 → zplay S k j ≠ zplay S k t) ∨ (x5 = 0 ∧ ¬ zuC (zplay S k) f t)) → f ≤ s → s ≤ t → t < s + m → Go G X m_Md_unlike (0, 0, 0, 0, 0) n SH σ 23 [(0, vr G 189), (1, vi (f : Int)), (2, vi l), (3, vi x3), (4, vi (t : Int)), (5, vi x5), (6, vi x6)] [] (post) := by
  intro m
  induction m with
  | zero => intro s x5 x6 e6 h5 fs st hm; exact absurd hm (by omega)
  | succ m ih =>
    intro s x5 x6 e6 h5 fs st hm
    have r5 : x5 = 0 ∨ x5 = 1 := by rcases h5 with h5 | h5; exact Or.inr h5.1; exact Or.inl h5.1
    have qt := hq.p hM kN ht
    subst e6
    refine g_iload (i := 6) (by decide +kernel) rfl ?_
    refine g_iload (i := 4) (by decide +kernel) rfl ?_
    refine g_icmp_ge (off := 49) (tgt := 76) (by decide +kernel) (by decide) ⟨by omega, by omega⟩ ⟨by omega, by omega⟩ (fun h27 => ?_) (fun h27 => ?_)
    · refine kk _ _ ?_
      rcases h5 with ⟨e5, p5, a5⟩ | h5
      · first
          | (exfalso; omega)
          | exact Or.inl ⟨e5, decide_eq_true ⟨ft, p5⟩, fun i hi qi => a5 i (of_decide_eq_true qi).1 (by omega) (of_decide_eq_true qi).2⟩
      · exact Or.inr h5
    · refine g_iload (i := 5) (by decide +kernel) rfl ?_
      refine g_if_eq (off := 44) (tgt := 76) (by decide +kernel) (by decide) ⟨by omega, by omega⟩ (fun h32 => ?_) (fun h32 => ?_)
      · refine kk _ _ ?_
        rcases h5 with ⟨e5, p5, a5⟩ | h5
        · first
            | (exfalso; omega)
            | exact Or.inl ⟨e5, decide_eq_true ⟨ft, p5⟩, fun i hi qi => a5 i (of_decide_eq_true qi).1 (by omega) (of_decide_eq_true qi).2⟩
        · exact Or.inr h5
      · have qs := hq.p hM kN (show s < 2000 by omega)
        have hh : x5 = 1 ∧ zplay S k t ≠ -1 ∧ ∀ j, f ≤ j → j < s → zplay S k j ≠ -1 → zplay S k j ≠ zplay S k t := by
          rcases h5 with h5 | h5
          · exact h5
          · exact absurd h5.1 h32
        have h2 := hh.2.1
        refine g_aload_n (i := 0) (by decide +kernel) rfl ?_
        refine g_getr f_Md_124 (by decide +kernel) (by omega) rfl rfl ?_
        refine g_iload (i := 6) (by decide +kernel) rfl ?_
        refine g_zald (j := s) (by decide +kernel) (by omega) rfl (by omega) (by omega) (by decide) ?_
        refine g_if_eq (off := 21) (tgt := 63) (by decide +kernel) (by decide) ⟨by omega, by omega⟩ (fun h42 => ?_) (fun h42 => ?_)
        · refine g_iconst (a := 1) (by decide +kernel) ?_
          refine g_goto (off := 4) (tgt := 68) (by decide +kernel) (by decide) ?_
          refine g_istore (i := 5) (L' := [(0, _), (1, _), (2, _), (3, _), (4, _), (5, _), (6, _)]) (by decide +kernel) rfl rfl ?_
          refine g_iinc (i := 6) (b := 1) (L' := [(0, _), (1, _), (2, _), (3, _), (4, _), (5, _), (6, _)]) (by decide +kernel) rfl rfl rfl ?_
          refine g_goto (off := -50) (tgt := 23) (by decide +kernel) (by decide) ?_
          first
            | (refine ih (s + 1) 1 _ (by push_cast; rfl) (Or.inl ⟨rfl, hh.2.1, fun j j1 j2 pj => ?_⟩) (by omega) (by omega) (by omega)
               by_cases z : j = s
               · rw [z] at pj ⊢; omega
               · exact hh.2.2 j j1 (by omega) pj)
            | (refine ih (s + 1) 0 _ (by push_cast; rfl) (Or.inr ⟨rfl, fun y => y.2 s (by omega) (decide_eq_true ⟨by omega, by omega⟩) (by omega)⟩) (by omega) (by omega) (by omega))
        · refine g_aload_n (i := 0) (by decide +kernel) rfl ?_
          refine g_getr f_Md_127 (by decide +kernel) (by omega) rfl rfl ?_
          refine g_iload (i := 6) (by decide +kernel) rfl ?_
          refine g_lald (j := s) (by decide +kernel) (by omega) rfl (by omega) (by omega) (by decide) ?_
          refine g_aload_n (i := 0) (by decide +kernel) rfl ?_
          refine g_getr f_Md_127 (by decide +kernel) (by omega) rfl rfl ?_
          refine g_iload (i := 4) (by decide +kernel) rfl ?_
          refine g_lald (j := t) (by decide +kernel) (by omega) rfl (by omega) (by omega) (by decide) ?_
          refine g_lcmp (by decide +kernel) ⟨by omega, by omega⟩ ⟨by omega, by omega⟩ ?_
          refine g_if_eq (off := 7) (tgt := 67) (by decide +kernel) (by decide) zcmp_r (fun h60 => ?_) (fun h60 => ?_)
          · have h60 := zcmp_eq.mp h60
            refine g_iconst (a := 0) (by decide +kernel) ?_
            refine g_istore (i := 5) (L' := [(0, _), (1, _), (2, _), (3, _), (4, _), (5, _), (6, _)]) (by decide +kernel) rfl rfl ?_
            refine g_iinc (i := 6) (b := 1) (L' := [(0, _), (1, _), (2, _), (3, _), (4, _), (5, _), (6, _)]) (by decide +kernel) rfl rfl rfl ?_
            refine g_goto (off := -50) (tgt := 23) (by decide +kernel) (by decide) ?_
            first
              | (refine ih (s + 1) 1 _ (by push_cast; rfl) (Or.inl ⟨rfl, hh.2.1, fun j j1 j2 pj => ?_⟩) (by omega) (by omega) (by omega)
                 by_cases z : j = s
                 · rw [z] at pj ⊢; omega
                 · exact hh.2.2 j j1 (by omega) pj)
              | (refine ih (s + 1) 0 _ (by push_cast; rfl) (Or.inr ⟨rfl, fun y => y.2 s (by omega) (decide_eq_true ⟨by omega, by omega⟩) (by omega)⟩) (by omega) (by omega) (by omega))
          · have h60 := zcmp_ne.mp h60
            refine g_iconst (a := 1) (by decide +kernel) ?_
            refine g_goto (off := 4) (tgt := 68) (by decide +kernel) (by decide) ?_
            refine g_istore (i := 5) (L' := [(0, _), (1, _), (2, _), (3, _), (4, _), (5, _), (6, _)]) (by decide +kernel) rfl rfl ?_
            refine g_iinc (i := 6) (b := 1) (L' := [(0, _), (1, _), (2, _), (3, _), (4, _), (5, _), (6, _)]) (by decide +kernel) rfl rfl rfl ?_
            refine g_goto (off := -50) (tgt := 23) (by decide +kernel) (by decide) ?_
            first
              | (refine ih (s + 1) 1 _ (by push_cast; rfl) (Or.inl ⟨rfl, hh.2.1, fun j j1 j2 pj => ?_⟩) (by omega) (by omega) (by omega)
                 by_cases z : j = s
                 · rw [z] at pj ⊢; omega
                 · exact hh.2.2 j j1 (by omega) pj)
              | (refine ih (s + 1) 0 _ (by push_cast; rfl) (Or.inr ⟨rfl, fun y => y.2 s (by omega) (decide_eq_true ⟨by omega, by omega⟩) (by omega)⟩) (by omega) (by omega) (by omega))
theorem w_Md_unlike {G : zG} {X : zX} {n : Nat} {σ : zSt} {S : zSt} {k f l : Nat} (hn : 220 ≤ n) (hM : zMz S) (hq : zTm σ S k 2000) (kN : k < zN S) (hl : l < 2000)  : ∀ (m : Nat) (i : Nat) (x3 x4 : Int), x4 = (i : Int) → x3 = (zun 1000000001 (fun s => decide (f ≤ s ∧ zplay S k s ≠ -1)) (zplay S k) i : Int) → f ≤ i → i ≤ l + 1 → l + 1 < i + m → Go G X m_Md_unlike (0, 0, 0, 0, 0) n SH σ 5 [(0, vr G 189), (1, vi (f : Int)), (2, vi (l : Int)), (3, vi x3), (4, vi x4)] [] (zI n SH (fun a σ' => a = (zunp (zplay S k) f l : Int) ∧ σ' = σ)) := by
  intro m
  induction m with
  | zero => intro i x3 x4 e4 e3 fi hi hm; exact absurd hm (by omega)
  | succ m ih =>
    intro i x3 x4 e4 e3 fi hi hm
    subst e4 e3
    refine g_iload (i := 4) (by decide +kernel) rfl ?_
    refine g_iload_n (i := 2) (by decide +kernel) rfl ?_
    refine g_icmp_gt (off := 87) (tgt := 95) (by decide +kernel) (by decide) ⟨by omega, by omega⟩ ⟨by omega, by omega⟩ (fun h8 => ?_) (fun h8 => ?_)
    · refine g_iload_n (i := 3) (by decide +kernel) rfl ?_
      refine g_retI (by decide +kernel) rfl (Or.inl rfl) ⟨by decide, by decide⟩ ?_
      exact ⟨by rw [show i = l + 1 by omega]; rfl, rfl⟩
    · have qi := hq.p hM kN (show i < 2000 by omega)
      have us := zun_s (B := 1000000001) (q := fun s => decide (f ≤ s ∧ zplay S k s ≠ -1)) (f := zplay S k) (n := i) (fun qn => by have := (of_decide_eq_true qn).2; omega)
      refine g_aload_n (i := 0) (by decide +kernel) rfl ?_
      refine g_getr f_Md_124 (by decide +kernel) (by omega) rfl rfl ?_
      refine g_iload (i := 4) (by decide +kernel) rfl ?_
      refine g_zald (j := i) (by decide +kernel) (by omega) rfl (by omega) (by omega) (by decide) ?_
      refine g_istore (i := 5) (L' := [(0, _), (1, _), (2, _), (3, _), (4, _), (5, _)]) (by decide +kernel) rfl rfl ?_
      refine g_iload_n (i := 1) (by decide +kernel) rfl ?_
      refine g_istore (i := 6) (L' := [(0, _), (1, _), (2, _), (3, _), (4, _), (5, _), (6, _)]) (by decide +kernel) rfl rfl ?_
      refine w2_Md_unlike hn hM hq kN (show i < 2000 by omega) fi (fun x5 x6 hx => ?_) (i + 1) f _ _ rfl ?_ (Nat.le_refl _) fi (by omega)
      rotate_left
      · rcases qi.1 with z | z
        · exact Or.inr ⟨z.1, fun y => (of_decide_eq_true y.1).2 z.2⟩
        · exact Or.inl ⟨z.1, by omega, fun j j1 j2 => by omega⟩
      have r5 : x5 = 0 ∨ x5 = 1 := by rcases hx with h5 | h5; exact Or.inr h5.1; exact Or.inl h5.1
      refine g_iload_n (i := 3) (by decide +kernel) rfl ?_
      refine g_iload (i := 5) (by decide +kernel) rfl ?_
      refine g_if_eq (off := 7) (tgt := 86) (by decide +kernel) (by decide) ⟨by omega, by omega⟩ (fun h79 => ?_) (fun h79 => ?_)
      · refine g_iconst (a := 0) (by decide +kernel) ?_
        refine g_iadd (by decide +kernel) ?_
        refine g_istore_n (i := 3) (L' := [(0, _), (1, _), (2, _), (3, _), (4, _), (5, _), (6, _)]) (by decide +kernel) rfl rfl ?_
        refine g_iinc (i := 4) (b := 1) (L' := [(0, _), (1, _), (2, _), (3, _), (4, _), (5, _), (6, _)]) (by decide +kernel) rfl rfl rfl ?_
        refine g_goto (off := -87) (tgt := 5) (by decide +kernel) (by decide) ?_
        refine g_less [0, 1, 2, 3, 4] rfl ?_
        rcases hx with hx | hx
        · first
            | (exfalso; omega)
            | (have e := us
               have hx2 := hx.2
               unfold zuC at hx2
               rw [if_pos hx2] at e
               exact ih (i + 1) _ _ (by push_cast; rfl) (by rw [e]; push_cast; omega) (by omega) (by omega) (by omega))
        · first
            | (exfalso; omega)
            | (have e := us
               have hx2 := hx.2
               unfold zuC at hx2
               rw [if_neg hx2] at e
               exact ih (i + 1) _ _ (by push_cast; rfl) (by rw [e]; push_cast; omega) (by omega) (by omega) (by omega))
      · refine g_iconst (a := 1) (by decide +kernel) ?_
        refine g_goto (off := 4) (tgt := 87) (by decide +kernel) (by decide) ?_
        refine g_iadd (by decide +kernel) ?_
        refine g_istore_n (i := 3) (L' := [(0, _), (1, _), (2, _), (3, _), (4, _), (5, _), (6, _)]) (by decide +kernel) rfl rfl ?_
        refine g_iinc (i := 4) (b := 1) (L' := [(0, _), (1, _), (2, _), (3, _), (4, _), (5, _), (6, _)]) (by decide +kernel) rfl rfl rfl ?_
        refine g_goto (off := -87) (tgt := 5) (by decide +kernel) (by decide) ?_
        refine g_less [0, 1, 2, 3, 4] rfl ?_
        rcases hx with hx | hx
        · first
            | (exfalso; omega)
            | (have e := us
               have hx2 := hx.2
               unfold zuC at hx2
               rw [if_pos hx2] at e
               exact ih (i + 1) _ _ (by push_cast; rfl) (by rw [e]; push_cast; omega) (by omega) (by omega) (by omega))
        · first
            | (exfalso; omega)
            | (have e := us
               have hx2 := hx.2
               unfold zuC at hx2
               rw [if_neg hx2] at e
               exact ih (i + 1) _ _ (by push_cast; rfl) (by rw [e]; push_cast; omega) (by omega) (by omega) (by omega))
theorem c_Md_unlike {G : zG} {n : Nat} {σ : zSt} {S : zSt} {k f l : Nat} (hn : 220 ≤ n) (hM : zMz S) (hq : zTm σ S k 2000) (kN : k < zN S) (hl : l < 2000) (hfl : f ≤ l + 1) : Gm G y_Md_unlike m_Md_unlike 0 0 0 [vr G 189, vi (f : Int), vi (l : Int)] n SH σ (zI n SH (fun a σ' => a = (zunp (zplay S k) f l : Int) ∧ σ' = σ)) := by
  refine g_enter (L := [(0, _), (1, _), (2, _)]) (by decide) rfl rfl rfl (Nat.le_of_ble_eq_true rfl) (fun X => ?_)
  refine g_iconst (a := 0) (by decide +kernel) ?_
  refine g_istore_n (i := 3) (L' := [(0, _), (1, _), (2, _), (3, _)]) (by decide +kernel) rfl rfl ?_
  refine g_iload_n (i := 1) (by decide +kernel) rfl ?_
  refine g_istore (i := 4) (L' := [(0, _), (1, _), (2, _), (3, _), (4, _)]) (by decide +kernel) rfl rfl ?_
  exact w_Md_unlike hn hM hq kN hl (l + 2 - f) f _ _ rfl (by rw [zun_from]; rfl) (Nat.le_refl _) hfl (by omega)
theorem c_Md_frames {G : zG} {n : Nat} {σ : zSt} {S : zSt} (hn : 220 ≤ n) (hM : zMz S) (hS : zMc σ S) {c : Int} (z1 : zr c) : Gm G y_Md_frames m_Md_frames 19 0 0 [vr G 189, vi c] n SH σ (zI n SH (fun a σ' => zRM σ σ' a (if 0 ≤ c ∧ c < S 0 0 then 0 else 2) (zunp (zplay S c.toNat) 0 1999 : Int))) := by
  refine g_enter (L := [(0, _), (1, _)]) (by decide) rfl rfl rfl (Nat.le_of_ble_eq_true rfl) (fun X => ?_)
  have e0 := hS.n
  have e8 := hS.p
  have hN := hS.N
  have hz : zN S = (S 0 0).toNat := rfl
  obtain ⟨z1a, z1b⟩ := id z1
  refine g_aload_n (i := 0) (by decide +kernel) rfl ?_
  refine g_iconst (a := 0) (by decide +kernel) ?_
  refine g_puti f_Md_142 (by decide +kernel) (by omega) rfl rfl ?_
  refine g_aload_n (i := 0) (by decide +kernel) rfl ?_
  refine g_iconst (a := 0) (by decide +kernel) ?_
  refine g_puti f_Md_145 (by decide +kernel) (by omega) rfl rfl ?_
  obtain ⟨τ, eτ⟩ : ∃ τ, τ = zs (zs σ 189 3 0) 189 2 0 := ⟨_, rfl⟩
  rw [← eτ]
  have f0 : zMF σ τ := by rw [eτ]; exact ((zMF.rf σ).put (by decide)).put (by decide)
  have s0 : τ 189 2 = 0 := by rw [eτ, zs_eq]
  have hT : zMc τ S := hS.moved (f0.1 190 (by decide))
  have et := hT.n
  have ep := hT.p
  refine g_aload_n (i := 0) (by decide +kernel) rfl ?_
  refine g_iload_n (i := 1) (by decide +kernel) rfl ?_
  refine g_cVI (st := _) (c_Md_isClip (k := c) hn (by assumption) (by rw [hT.n]; omega)) k_Md_isClip l_Md_313 (by decide +kernel) (by omega) rfl rfl rfl rfl (Nat.le_of_ble_eq_true rfl) (by decide) ⟨by decide, by decide⟩ ?_
  rintro a9 σ9 ⟨ea9, hσ9⟩
  obtain rfl := hσ9.symm
  rw [hT.n] at ea9
  subst ea9
  refine g_if_ne (off := 9) (tgt := 24) (by decide +kernel) (by decide) zbr (fun h15 => ?_) (fun h15 => ?_)
  · have h15 := zb1.mp h15
    obtain ⟨k, rfl⟩ := Int.eq_ofNat_of_zero_le h15.1
    have kN : k < zN S := by omega
    refine g_aload_n (i := 0) (by decide +kernel) rfl ?_
    refine g_iload_n (i := 1) (by decide +kernel) rfl ?_
    refine g_cVV (st := _) (c_Md_laysTimes (k := k) hn hM hT kN) k_Md_laysTimes l_Md_436 (by decide +kernel) (by omega) rfl rfl rfl rfl (Nat.le_of_ble_eq_true rfl) (by decide) ⟨by decide, by decide⟩ ?_
    rintro υ ⟨hf, hP, hq⟩
    have f1 := f0.of (fun a ha => hf a (by omega))
    have s1 : υ 189 2 = 0 := by rw [hf 189 (by omega)]; exact s0
    refine g_aload_n (i := 0) (by decide +kernel) rfl ?_
    refine g_iconst (a := 0) (by decide +kernel) ?_
    refine g_sipush (a := 1999) (by decide +kernel) (by decide) ?_
    refine g_cVI (st := _) (c_Md_unlike (f := 0) (l := 1999) hn hM hq kN (by omega) (by omega)) k_Md_unlike l_Md_452 (by decide +kernel) (by omega) rfl rfl rfl rfl (Nat.le_of_ble_eq_true rfl) (by decide) ⟨by decide, by decide⟩ ?_
    rintro a9 σ9 ⟨ea9, hσ9⟩
    obtain rfl := hσ9.symm
    refine g_retI (by decide +kernel) rfl (Or.inl rfl) ⟨by decide, by decide⟩ ?_
    exact zRM.ok f1 (if_pos (by omega)) s1 (by rw [Int.toNat_natCast]; exact ea9)
  · have h15 := zb0.mp h15
    refine g_aload_n (i := 0) (by decide +kernel) rfl ?_
    refine g_iconst (a := 2) (by decide +kernel) ?_
    refine g_cVI (st := _) (c_Md_refuse hn) k_Md_refuse l_Md_295 (by decide +kernel) (by omega) rfl rfl rfl rfl (Nat.le_of_ble_eq_true rfl) (by decide) ⟨by decide, by decide⟩ ?_
    rintro a9 σ9 ⟨ea9, hσ9⟩
    obtain rfl := ea9.symm
    subst hσ9
    refine g_retI (by decide +kernel) rfl (Or.inl rfl) ⟨by decide, by decide⟩ ?_
    exact zRM.ref f0 (if_neg (by omega)) (by decide)
/-- spans are counted by their first times -/
theorem zMa_sp (p : Nat → Int) (x : Nat → Int) : ∀ t, (zMa p 0 x t).1 = (zcnt (fun s => decide (p s ≠ -1 ∧ zah p s = -1)) t : Int)
  | 0 => rfl
  | t + 1 => by
    rw [zMa_s]
    unfold zMs
    have ih := zMa_sp p x t
    by_cases g : zgo p 0 t (zMa p 0 x t).2 = true
    · have gg := of_decide_eq_true g
      rw [if_pos g, zcnt_f (decide_eq_false (fun y => gg.2.1 y.2))]
      exact ih
    · rw [if_neg g]
      by_cases h : p t = -1
      · rw [if_neg (fun y => y h), zcnt_f (decide_eq_false (fun y => y.1 h))]
        exact ih
      · have z : zah p t = -1 := by
          by_cases z : zah p t = -1
          · exact z
          · exact absurd (decide_eq_true ⟨h, z, Or.inl rfl⟩) g
        rw [if_pos h, zcnt_t (decide_eq_true ⟨h, z⟩)]
        show (zMa p 0 x t).1 + 1 = _
        rw [ih]; push_cast; rfl
theorem w_Md_spans {G : zG} {X : zX} {n : Nat} {σ : zSt} {S υ : zSt} {k : Nat} (hn : 220 ≤ n) (hM : zMz S) (hq : zTm υ S k 2000) (kN : k < zN S) (f1 : zMF σ υ) (s1 : υ 189 2 = 0)  : ∀ (m : Nat) (i : Nat) (x2 x3 : Int), x3 = (i : Int) → x2 = (zcnt (fun s => decide (zplay S k s ≠ -1 ∧ zah (zplay S k) s = -1)) i : Int) → i ≤ 2000 → 2000 < i + m → Go G X m_Md_spans (19, 0, 0, 0, 0) n SH υ 33 [(0, vr G 189), (1, vi (k : Int)), (2, vi x2), (3, vi x3)] [] (zI n SH (fun a σ' => zRM σ σ' a 0 (zcnt (fun s => decide (zplay S k s ≠ -1 ∧ zah (zplay S k) s = -1)) 2000 : Int))) := by
  intro m
  induction m with
  | zero => intro i x2 x3 e3 e2 hi hm; exact absurd hm (by omega)
  | succ m ih =>
    intro i x2 x3 e3 e2 hi hm
    subst e3
    have zl := zcnt_le (fun s => decide (zplay S k s ≠ -1 ∧ zah (zplay S k) s = -1)) i
    refine g_iload_n (i := 3) (by decide +kernel) rfl ?_
    refine g_sipush (a := 1999) (by decide +kernel) (by decide) ?_
    refine g_icmp_gt (off := 25) (tgt := 62) (by decide +kernel) (by decide) ⟨by omega, by omega⟩ ⟨by omega, by omega⟩ (fun h37 => ?_) (fun h37 => ?_)
    · refine g_iload_n (i := 2) (by decide +kernel) rfl ?_
      refine g_retI (by decide +kernel) rfl (Or.inl rfl) ⟨by decide, by decide⟩ ?_
      exact zRM.ok f1 rfl s1 (by rw [e2, show i = 2000 by omega])
    · refine g_iload_n (i := 2) (by decide +kernel) rfl ?_
      refine g_aload_n (i := 0) (by decide +kernel) rfl ?_
      refine g_iload_n (i := 3) (by decide +kernel) rfl ?_
      refine g_cVI (st := _) (c_Md_isFirst (t := i) hn hM hq kN (by omega)) k_Md_isFirst l_Md_449 (by decide +kernel) (by omega) rfl rfl rfl rfl (Nat.le_of_ble_eq_true rfl) (by decide) ⟨by decide, by decide⟩ ?_
      rintro a9 σ9 ⟨ea9, hσ9⟩
      obtain rfl := hσ9.symm
      subst ea9
      refine g_if_eq (off := 7) (tgt := 53) (by decide +kernel) (by decide) zbr (fun h46 => ?_) (fun h46 => ?_)
      · have h46 := zb0.mp h46
        refine g_iconst (a := 0) (by decide +kernel) ?_
        refine g_iadd (by decide +kernel) ?_
        refine g_istore_n (i := 2) (L' := [(0, _), (1, _), (2, _), (3, _)]) (by decide +kernel) rfl rfl ?_
        refine g_iinc (i := 3) (b := 1) (L' := [(0, _), (1, _), (2, _), (3, _)]) (by decide +kernel) rfl rfl rfl ?_
        refine g_goto (off := -26) (tgt := 33) (by decide +kernel) (by decide) ?_
        first
          | (have z : ¬ (zplay S k i ≠ -1 ∧ zah (zplay S k) i = -1) := h46
             exact ih (i + 1) _ _ (by push_cast; rfl) (by rw [zcnt_f (decide_eq_false z)]; omega) (by omega) (by omega))
          | (have z : zplay S k i ≠ -1 ∧ zah (zplay S k) i = -1 := h46
             exact ih (i + 1) _ _ (by push_cast; rfl) (by rw [zcnt_t (decide_eq_true z)]; push_cast; omega) (by omega) (by omega))
      · have h46 := zb1.mp h46
        refine g_iconst (a := 1) (by decide +kernel) ?_
        refine g_goto (off := 4) (tgt := 54) (by decide +kernel) (by decide) ?_
        refine g_iadd (by decide +kernel) ?_
        refine g_istore_n (i := 2) (L' := [(0, _), (1, _), (2, _), (3, _)]) (by decide +kernel) rfl rfl ?_
        refine g_iinc (i := 3) (b := 1) (L' := [(0, _), (1, _), (2, _), (3, _)]) (by decide +kernel) rfl rfl rfl ?_
        refine g_goto (off := -26) (tgt := 33) (by decide +kernel) (by decide) ?_
        first
          | (have z : ¬ (zplay S k i ≠ -1 ∧ zah (zplay S k) i = -1) := h46
             exact ih (i + 1) _ _ (by push_cast; rfl) (by rw [zcnt_f (decide_eq_false z)]; omega) (by omega) (by omega))
          | (have z : zplay S k i ≠ -1 ∧ zah (zplay S k) i = -1 := h46
             exact ih (i + 1) _ _ (by push_cast; rfl) (by rw [zcnt_t (decide_eq_true z)]; push_cast; omega) (by omega) (by omega))
theorem c_Md_spans {G : zG} {n : Nat} {σ : zSt} {S : zSt} (hn : 220 ≤ n) (hM : zMz S) (hS : zMc σ S) {c : Int} {x : Nat → Int} (z1 : zr c) : Gm G y_Md_spans m_Md_spans 19 0 0 [vr G 189, vi c] n SH σ (zI n SH (fun a σ' => zRM σ σ' a (if 0 ≤ c ∧ c < S 0 0 then 0 else 2) (zMa (zplay S c.toNat) 0 x 2000).1)) := by
  refine g_enter (L := [(0, _), (1, _)]) (by decide) rfl rfl rfl (Nat.le_of_ble_eq_true rfl) (fun X => ?_)
  have e0 := hS.n
  have e8 := hS.p
  have hN := hS.N
  have hz : zN S = (S 0 0).toNat := rfl
  obtain ⟨z1a, z1b⟩ := id z1
  refine g_aload_n (i := 0) (by decide +kernel) rfl ?_
  refine g_iconst (a := 0) (by decide +kernel) ?_
  refine g_puti f_Md_142 (by decide +kernel) (by omega) rfl rfl ?_
  refine g_aload_n (i := 0) (by decide +kernel) rfl ?_
  refine g_iconst (a := 0) (by decide +kernel) ?_
  refine g_puti f_Md_145 (by decide +kernel) (by omega) rfl rfl ?_
  obtain ⟨τ, eτ⟩ : ∃ τ, τ = zs (zs σ 189 3 0) 189 2 0 := ⟨_, rfl⟩
  rw [← eτ]
  have f0 : zMF σ τ := by rw [eτ]; exact ((zMF.rf σ).put (by decide)).put (by decide)
  have s0 : τ 189 2 = 0 := by rw [eτ, zs_eq]
  have hT : zMc τ S := hS.moved (f0.1 190 (by decide))
  have et := hT.n
  have ep := hT.p
  refine g_aload_n (i := 0) (by decide +kernel) rfl ?_
  refine g_iload_n (i := 1) (by decide +kernel) rfl ?_
  refine g_cVI (st := _) (c_Md_isClip (k := c) hn (by assumption) (by rw [hT.n]; omega)) k_Md_isClip l_Md_313 (by decide +kernel) (by omega) rfl rfl rfl rfl (Nat.le_of_ble_eq_true rfl) (by decide) ⟨by decide, by decide⟩ ?_
  rintro a9 σ9 ⟨ea9, hσ9⟩
  obtain rfl := hσ9.symm
  rw [hT.n] at ea9
  subst ea9
  refine g_if_ne (off := 9) (tgt := 24) (by decide +kernel) (by decide) zbr (fun h15 => ?_) (fun h15 => ?_)
  · have h15 := zb1.mp h15
    obtain ⟨k, rfl⟩ := Int.eq_ofNat_of_zero_le h15.1
    have kN : k < zN S := by omega
    refine g_aload_n (i := 0) (by decide +kernel) rfl ?_
    refine g_iload_n (i := 1) (by decide +kernel) rfl ?_
    refine g_cVV (st := _) (c_Md_laysTimes (k := k) hn hM hT kN) k_Md_laysTimes l_Md_436 (by decide +kernel) (by omega) rfl rfl rfl rfl (Nat.le_of_ble_eq_true rfl) (by decide) ⟨by decide, by decide⟩ ?_
    rintro υ ⟨hf, hP, hq⟩
    have f1 := f0.of (fun a ha => hf a (by omega))
    have s1 : υ 189 2 = 0 := by rw [hf 189 (by omega)]; exact s0
    refine g_iconst (a := 0) (by decide +kernel) ?_
    refine g_istore_n (i := 2) (L' := [(0, _), (1, _), (2, _)]) (by decide +kernel) rfl rfl ?_
    refine g_iconst (a := 0) (by decide +kernel) ?_
    refine g_istore_n (i := 3) (L' := [(0, _), (1, _), (2, _), (3, _)]) (by decide +kernel) rfl rfl ?_
    rw [if_pos (by omega), Int.toNat_natCast, zMa_sp]
    exact w_Md_spans hn hM hq kN f1 s1 2001 0 _ _ rfl rfl (by omega) (by omega)
  · have h15 := zb0.mp h15
    refine g_aload_n (i := 0) (by decide +kernel) rfl ?_
    refine g_iconst (a := 2) (by decide +kernel) ?_
    refine g_cVI (st := _) (c_Md_refuse hn) k_Md_refuse l_Md_295 (by decide +kernel) (by omega) rfl rfl rfl rfl (Nat.le_of_ble_eq_true rfl) (by decide) ⟨by decide, by decide⟩ ?_
    rintro a9 σ9 ⟨ea9, hσ9⟩
    obtain rfl := ea9.symm
    subst hσ9
    refine g_retI (by decide +kernel) rfl (Or.inl rfl) ⟨by decide, by decide⟩ ?_
    exact zRM.ref f0 (if_neg (by omega)) (by decide)
