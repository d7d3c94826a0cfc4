/-! THE REFERENCE PLAYS (189: head 4, events 49; rows 216 kind, 217 time, 218 clip, 219 local) -/
def zRq (σ : zSt) (L : List zE4) : Prop := σ 189 49 = (L.length : Int) ∧ ∀ i, i < 64 → i < L.length → σ 216 i = (zL4 L i).1 ∧ σ 217 i = (zL4 L i).2.1 ∧ σ 218 i = (zL4 L i).2.2.1 ∧ σ 219 i = (zL4 L i).2.2.2
theorem zRq_1 {σ τ : zSt} {L : List zE4} {x1 x2 x3 x4 : Int} (h : zRq σ L) (f1 : τ 216 = zu (σ 216) L.length x1) (f2 : τ 217 = zu (σ 217) L.length x2) (f3 : τ 218 = zu (σ 218) L.length x3) (f4 : τ 219 = zu (σ 219) L.length x4) (h49 : τ 189 49 = (L.length : Int) + 1) : zRq τ (L ++ [((x1, x2, x3, x4) : Int × Int × Int × Int)]) := by
  obtain ⟨h1, h2⟩ := h
  refine ⟨by rw [h49, zlen1]; push_cast; rfl, fun i hi hL => ?_⟩
  rw [zlen1] at hL
  rw [f1, f2, f3, f4]
  by_cases z : i = L.length
  · rw [z, zu_eq, zu_eq, zu_eq, zu_eq, zL4_r]; exact ⟨rfl, rfl, rfl, rfl⟩
  · rw [zu_ne z, zu_ne z, zu_ne z, zu_ne z, zL4_l (by omega)]; exact h2 i hi (by omega)
theorem zRq_0 {σ τ : zSt} {L : List zE4} {x : zE4} (h : zRq σ L) (hl : 64 ≤ L.length) (hf : ∀ a, 216 ≤ a → τ a = σ a) (h49 : τ 189 49 = (L.length : Int) + 1) : zRq τ (L ++ [x]) := by
  obtain ⟨h1, h2⟩ := h
  refine ⟨by rw [h49, zlen1]; push_cast; rfl, fun i hi hL => ?_⟩
  rw [hf 216 (by decide), hf 217 (by decide), hf 218 (by decide), hf 219 (by decide), zL4_l (by omega)]
  exact h2 i hi (by omega)
theorem zRq.moved {σ τ : zSt} {L : List zE4} (h : zRq σ L) (hf : ∀ a, 216 ≤ a → τ a = σ a) (h49 : τ 189 49 = σ 189 49) : zRq τ L := by
  unfold zRq
  rw [h49, hf 216 (by decide), hf 217 (by decide), hf 218 (by decide), hf 219 (by decide)]
  exact h
/-- only the events have changed -/
def zTf (σ τ : zSt) : Prop := (∀ a, a ≠ 189 → a < 216 → τ a = σ a) ∧ ∀ j, j ≠ 49 → τ 189 j = σ 189 j
theorem zTf.rf (σ : zSt) : zTf σ σ := ⟨fun _ _ _ => rfl, fun _ _ => rfl⟩
theorem zTf.tr {σ τ υ : zSt} (h : zTf σ τ) (g : zTf τ υ) : zTf σ υ := ⟨fun a h1 h2 => (g.1 a h1 h2).trans (h.1 a h1 h2), fun j hj => (g.2 j hj).trans (h.2 j hj)⟩
theorem c_Md_tells {G : zG} {n : Nat} {σ : zSt} {x : Int} {k : Nat} {L : List zE4} (hn : 220 ≤ n) (hL : zRq σ L) (hl : L.length ≤ 5000) (hx : 0 ≤ x ∧ x ≤ 2) (hk : k < 12) : Gm G y_Md_tells m_Md_tells 1 0 0 [vr G 189, vi x, vi (k : Int)] n SH σ (zV n SH (fun σ' => zTf σ σ' ∧ zRq σ' (L ++ [((x, σ 189 4, (k : Int), (if x = 1 then -1 else σ 203 (72 + k))) : Int × Int × Int × Int)]))) := by
  refine g_enter (L := [(0, _), (1, _), (2, _)]) (by decide) rfl rfl rfl (Nat.le_of_ble_eq_true rfl) (fun X => ?_)
  obtain ⟨e, ee⟩ : ∃ e : Nat, e = L.length := ⟨_, rfl⟩
  have n0 : σ 189 49 = (e : Int) := by rw [hL.1, ee]
  refine g_aload_n (i := 0) (by decide +kernel) rfl ?_
  refine g_geti f_Md_310 (by decide +kernel) (by omega) rfl rfl ?_
  refine g_bipush (a := 64) (by decide +kernel) (by decide) ?_
  refine g_icmp_ge (off := 60) (tgt := 66) (by decide +kernel) (by decide) ⟨by omega, by omega⟩ ⟨by omega, by omega⟩ (fun h6 => ?_) (fun h6 => ?_)
  · refine g_aload_n (i := 0) (by decide +kernel) rfl ?_
    refine g_dup (by decide +kernel) rfl ?_
    refine g_geti f_Md_310 (by decide +kernel) (by omega) rfl rfl ?_
    refine g_iconst (a := 1) (by decide +kernel) ?_
    refine g_iadd (by decide +kernel) ?_
    refine g_puti f_Md_310 (by decide +kernel) (by omega) rfl rfl ?_
    refine g_retV (by decide +kernel) rfl ⟨by decide, by decide⟩ ?_
    first
      | (refine ⟨⟨fun a h1 h2 => zs_other h1, fun j hj => zs_ne (fun y => hj y.2)⟩, zRq_0 hL (by omega) (fun a ha => zs_other (by omega)) (by rw [zs_eq, n0, ee])⟩)
      | (have A : ∀ v : Int, v = (if x = 1 then -1 else σ 203 (72 + k)) → zTf σ (zs (zs τ3 219 e v) 189 49 (zs τ3 219 e v 189 49 + 1)) ∧ zRq (zs (zs τ3 219 e v) 189 49 (zs τ3 219 e v 189 49 + 1)) (L ++ [((x, σ 189 4, (k : Int), (if x = 1 then -1 else σ 203 (72 + k))) : Int × Int × Int × Int)]) := by
           intro v ev
           subst ev
           have q : ∀ a, a ≠ 216 → a ≠ 217 → a ≠ 218 → τ3 a = σ a := fun a a1 a2 a3 => by rw [t3 a a3, t2 a a2, t1 a a1]
           refine ⟨⟨fun a h1 h2 => by rw [zs_other h1, zs_other (by omega), q a (by omega) (by omega) (by omega)], fun j hj => by rw [zs_ne (fun y => hj y.2), zs_other (by decide), q 189 (by decide) (by decide) (by decide)]⟩, ?_⟩
           subst ee
           refine zRq_1 hL ?_ ?_ ?_ ?_ ?_
           · rw [zs_other (by decide), zs_other (by decide), t3 216 (by decide), t2 216 (by decide), r1]
           · rw [zs_other (by decide), zs_other (by decide), t3 217 (by decide), r2, t1 189 (by decide), t1 217 (by decide)]
           · rw [zs_other (by decide), zs_other (by decide), r3, t2 218 (by decide), t1 218 (by decide)]
           · rw [zs_other (by decide), zs_row, q 219 (by decide) (by decide) (by decide)]
           · rw [zs_eq, zs_other (by decide), n3]
         first
           | (have hz : x = 1 := h52
              exact A (-1) (by rw [if_pos hz]))
           | (have hz : ¬ x = 1 := h52
              exact A _ (by rw [if_neg hz, ea9, t3 203 (by decide), t2 203 (by decide), t1 203 (by decide)])))
  · refine g_aload_n (i := 0) (by decide +kernel) rfl ?_
    refine g_getr f_Md_130 (by decide +kernel) (by omega) rfl rfl ?_
    refine g_aload_n (i := 0) (by decide +kernel) rfl ?_
    refine g_geti f_Md_310 (by decide +kernel) (by omega) rfl rfl ?_
    refine g_iload_n (i := 1) (by decide +kernel) rfl ?_
    refine g_iast (j := e) (by decide +kernel) (by omega) rfl (by omega) (by omega) (by decide) ?_
    obtain ⟨τ1, e1⟩ : ∃ τ, τ = zs σ 216 e x := ⟨_, rfl⟩
    rw [← e1]
    have t1 : ∀ a, a ≠ 216 → τ1 a = σ a := fun a ha => by rw [e1, zs_other ha]
    have r1 : τ1 216 = zu (σ 216) e x := by rw [e1, zs_row]
    have n1 : τ1 189 49 = (e : Int) := by rw [t1 189 (by decide)]; exact n0
    refine g_aload_n (i := 0) (by decide +kernel) rfl ?_
    refine g_getr f_Md_133 (by decide +kernel) (by omega) rfl rfl ?_
    refine g_aload_n (i := 0) (by decide +kernel) rfl ?_
    refine g_geti f_Md_310 (by decide +kernel) (by omega) rfl rfl ?_
    refine g_aload_n (i := 0) (by decide +kernel) rfl ?_
    refine g_geti f_Md_307 (by decide +kernel) (by omega) rfl rfl ?_
    refine g_iast (j := e) (by decide +kernel) (by omega) rfl (by omega) (by omega) (by decide) ?_
    obtain ⟨τ2, e2⟩ : ∃ τ, τ = zs τ1 217 e (τ1 189 4) := ⟨_, rfl⟩
    rw [← e2]
    have t2 : ∀ a, a ≠ 217 → τ2 a = τ1 a := fun a ha => by rw [e2, zs_other ha]
    have r2 : τ2 217 = zu (τ1 217) e (τ1 189 4) := by rw [e2, zs_row]
    have n2 : τ2 189 49 = (e : Int) := by rw [t2 189 (by decide)]; exact n1
    refine g_aload_n (i := 0) (by decide +kernel) rfl ?_
    refine g_getr f_Md_136 (by decide +kernel) (by omega) rfl rfl ?_
    refine g_aload_n (i := 0) (by decide +kernel) rfl ?_
    refine g_geti f_Md_310 (by decide +kernel) (by omega) rfl rfl ?_
    refine g_iload_n (i := 2) (by decide +kernel) rfl ?_
    refine g_iast (j := e) (by decide +kernel) (by omega) rfl (by omega) (by omega) (by decide) ?_
    obtain ⟨τ3, e3⟩ : ∃ τ, τ = zs τ2 218 e (k : Int) := ⟨_, rfl⟩
    rw [← e3]
    have t3 : ∀ a, a ≠ 218 → τ3 a = τ2 a := fun a ha => by rw [e3, zs_other ha]
    have r3 : τ3 218 = zu (τ2 218) e (k : Int) := by rw [e3, zs_row]
    have n3 : τ3 189 49 = (e : Int) := by rw [t3 189 (by decide)]; exact n2
    refine g_aload_n (i := 0) (by decide +kernel) rfl ?_
    refine g_getr f_Md_139 (by decide +kernel) (by omega) rfl rfl ?_
    refine g_aload_n (i := 0) (by decide +kernel) rfl ?_
    refine g_geti f_Md_310 (by decide +kernel) (by omega) rfl rfl ?_
    refine g_iload_n (i := 1) (by decide +kernel) rfl ?_
    refine g_iconst (a := 1) (by decide +kernel) ?_
    refine g_icmp_ne (off := 7) (tgt := 59) (by decide +kernel) (by decide) ⟨by omega, by omega⟩ ⟨by omega, by omega⟩ (fun h52 => ?_) (fun h52 => ?_)
    · refine g_aload_n (i := 0) (by decide +kernel) rfl ?_
      refine g_iload_n (i := 2) (by decide +kernel) rfl ?_
      refine g_cVL (st := _) (c_Md_localOf (k := k) hn hk) k_Md_localOf l_Md_396 (by decide +kernel) (by omega) rfl rfl rfl rfl (Nat.le_of_ble_eq_true rfl) (by decide) ⟨by decide, by decide⟩ ?_
      rintro a9 σ9 ⟨ea9, hσ9⟩
      obtain rfl := hσ9.symm
      refine g_l2i (by decide +kernel) ?_
      refine g_iast (j := e) (by decide +kernel) (by omega) rfl (by omega) (by omega) (by decide) ?_
      refine g_aload_n (i := 0) (by decide +kernel) rfl ?_
      refine g_dup (by decide +kernel) rfl ?_
      refine g_geti f_Md_310 (by decide +kernel) (by omega) rfl rfl ?_
      refine g_iconst (a := 1) (by decide +kernel) ?_
      refine g_iadd (by decide +kernel) ?_
      refine g_puti f_Md_310 (by decide +kernel) (by omega) rfl rfl ?_
      refine g_retV (by decide +kernel) rfl ⟨by decide, by decide⟩ ?_
      first
        | (refine ⟨⟨fun a h1 h2 => zs_other h1, fun j hj => zs_ne (fun y => hj y.2)⟩, zRq_0 hL (by omega) (fun a ha => zs_other (by omega)) (by rw [zs_eq, n0, ee])⟩)
        | (have A : ∀ v : Int, v = (if x = 1 then -1 else σ 203 (72 + k)) → zTf σ (zs (zs τ3 219 e v) 189 49 (zs τ3 219 e v 189 49 + 1)) ∧ zRq (zs (zs τ3 219 e v) 189 49 (zs τ3 219 e v 189 49 + 1)) (L ++ [((x, σ 189 4, (k : Int), (if x = 1 then -1 else σ 203 (72 + k))) : Int × Int × Int × Int)]) := by
             intro v ev
             subst ev
             have q : ∀ a, a ≠ 216 → a ≠ 217 → a ≠ 218 → τ3 a = σ a := fun a a1 a2 a3 => by rw [t3 a a3, t2 a a2, t1 a a1]
             refine ⟨⟨fun a h1 h2 => by rw [zs_other h1, zs_other (by omega), q a (by omega) (by omega) (by omega)], fun j hj => by rw [zs_ne (fun y => hj y.2), zs_other (by decide), q 189 (by decide) (by decide) (by decide)]⟩, ?_⟩
             subst ee
             refine zRq_1 hL ?_ ?_ ?_ ?_ ?_
             · rw [zs_other (by decide), zs_other (by decide), t3 216 (by decide), t2 216 (by decide), r1]
             · rw [zs_other (by decide), zs_other (by decide), t3 217 (by decide), r2, t1 189 (by decide), t1 217 (by decide)]
             · rw [zs_other (by decide), zs_other (by decide), r3, t2 218 (by decide), t1 218 (by decide)]
             · rw [zs_other (by decide), zs_row, q 219 (by decide) (by decide) (by decide)]
             · rw [zs_eq, zs_other (by decide), n3]
           first
             | (have hz : x = 1 := h52
                exact A (-1) (by rw [if_pos hz]))
             | (have hz : ¬ x = 1 := h52
                exact A _ (by rw [if_neg hz, ea9, t3 203 (by decide), t2 203 (by decide), t1 203 (by decide)])))
    · refine g_iconst (a := -1) (by decide +kernel) ?_
      refine g_goto (off := 9) (tgt := 65) (by decide +kernel) (by decide) ?_
      refine g_iast (j := e) (by decide +kernel) (by omega) rfl (by omega) (by omega) (by decide) ?_
      refine g_aload_n (i := 0) (by decide +kernel) rfl ?_
      refine g_dup (by decide +kernel) rfl ?_
      refine g_geti f_Md_310 (by decide +kernel) (by omega) rfl rfl ?_
      refine g_iconst (a := 1) (by decide +kernel) ?_
      refine g_iadd (by decide +kernel) ?_
      refine g_puti f_Md_310 (by decide +kernel) (by omega) rfl rfl ?_
      refine g_retV (by decide +kernel) rfl ⟨by decide, by decide⟩ ?_
      first
        | (refine ⟨⟨fun a h1 h2 => zs_other h1, fun j hj => zs_ne (fun y => hj y.2)⟩, zRq_0 hL (by omega) (fun a ha => zs_other (by omega)) (by rw [zs_eq, n0, ee])⟩)
        | (have A : ∀ v : Int, v = (if x = 1 then -1 else σ 203 (72 + k)) → zTf σ (zs (zs τ3 219 e v) 189 49 (zs τ3 219 e v 189 49 + 1)) ∧ zRq (zs (zs τ3 219 e v) 189 49 (zs τ3 219 e v 189 49 + 1)) (L ++ [((x, σ 189 4, (k : Int), (if x = 1 then -1 else σ 203 (72 + k))) : Int × Int × Int × Int)]) := by
             intro v ev
             subst ev
             have q : ∀ a, a ≠ 216 → a ≠ 217 → a ≠ 218 → τ3 a = σ a := fun a a1 a2 a3 => by rw [t3 a a3, t2 a a2, t1 a a1]
             refine ⟨⟨fun a h1 h2 => by rw [zs_other h1, zs_other (by omega), q a (by omega) (by omega) (by omega)], fun j hj => by rw [zs_ne (fun y => hj y.2), zs_other (by decide), q 189 (by decide) (by decide) (by decide)]⟩, ?_⟩
             subst ee
             refine zRq_1 hL ?_ ?_ ?_ ?_ ?_
             · rw [zs_other (by decide), zs_other (by decide), t3 216 (by decide), t2 216 (by decide), r1]
             · rw [zs_other (by decide), zs_other (by decide), t3 217 (by decide), r2, t1 189 (by decide), t1 217 (by decide)]
             · rw [zs_other (by decide), zs_other (by decide), r3, t2 218 (by decide), t1 218 (by decide)]
             · rw [zs_other (by decide), zs_row, q 219 (by decide) (by decide) (by decide)]
             · rw [zs_eq, zs_other (by decide), n3]
           first
             | (have hz : x = 1 := h52
                exact A (-1) (by rw [if_pos hz]))
             | (have hz : ¬ x = 1 := h52
                exact A _ (by rw [if_neg hz, ea9, t3 203 (by decide), t2 203 (by decide), t1 203 (by decide)])))
/-- what a step leaves -/
def zStpM (σ σ' S : zSt) (t : Int) (L : List zE4) : Prop := (∀ a, (a < 189 ∨ a = 190 ∨ (196 ≤ a ∧ a ≤ 201)) → σ' a = σ a) ∧ (∀ j, j ≠ 4 → j ≠ 49 → σ' 189 j = σ 189 j) ∧ zPd σ' S ∧ σ' 189 4 = t + 1 ∧ zRq σ' L
theorem zPd.tf {σ τ S : zSt} (h : zPd σ S) (g : ∀ a, a ≠ 189 → a < 216 → τ a = σ a) : zPd τ S := h.moved (fun a ha => g a (by omega) (by omega))
theorem w_Md_steps {G : zG} {X : zX} {n : Nat} {σ : zSt} {S : zSt} {t : Int} {L : List zE4} (hn : 220 ≤ n) (hM : zMz S) {υ : zSt} (hF : (∀ a, (a < 189 ∨ a = 190 ∨ (196 ≤ a ∧ a ≤ 201)) → υ a = σ a) ∧ (∀ j, j ≠ 4 → j ≠ 49 → υ 189 j = σ 189 j)) (hP : zPd υ S) (h4 : υ 189 4 = t + 1) (s6 : zSo2 υ S 6 (t + 1) (zN S)) (s7 : zSo2 υ S 7 t (zN S)) (hl : L.length ≤ 4900)  : ∀ (m : Nat) (i : Nat) (x1 : Int) (τ : zSt), x1 = (i : Int) → zTf υ τ → zRq τ (L ++ zevk S (t + 1) i) → i ≤ zN S → zN S < i + m → Go G X m_Md_steps (17, 0, 0, 0, 0) n SH τ 32 [(0, vr G 189), (1, vi x1)] [] (zV n SH (fun σ' => zStpM σ σ' S t (L ++ zevk S (t + 1) (zN S)))) := by
  intro m
  induction m with
  | zero => intro i x1 τ e1 hf hL hi hm; exact absurd hm (by omega)
  | succ m ih =>
    intro i x1 τ e1 hf hL hi hm
    have hN := hP.2.1.N
    have hz : zN S = (S 0 0).toNat := rfl
    have hT : zMc τ S := hP.2.1.moved (hf.1 190 (by decide) (by decide))
    have et := hT.n
    subst e1
    have zk := zevk_len S (t + 1) i
    have lk : (L ++ zevk S (t + 1) i).length ≤ 5000 := by rw [List.length_append]; omega
    refine g_iload_n (i := 1) (by decide +kernel) rfl ?_
    refine g_aload_n (i := 0) (by decide +kernel) rfl ?_
    refine g_cVI (st := _) (c_Md_clips hn) k_Md_clips l_Md_148 (by decide +kernel) (by omega) rfl rfl rfl rfl (Nat.le_of_ble_eq_true rfl) (by decide) ⟨by decide, by decide⟩ ?_
    rintro a0 σ9 ⟨ea0, hσ9⟩
    obtain rfl := hσ9.symm
    subst ea0
    refine g_icmp_ge (off := 86) (tgt := 123) (by decide +kernel) (by decide) ⟨by omega, by omega⟩ ⟨by omega, by omega⟩ (fun h37 => ?_) (fun h37 => ?_)
    · refine g_retV (by decide +kernel) rfl ⟨by decide, by decide⟩ ?_
      rw [show i = zN S by omega] at hL
      exact ⟨fun a ha => by rw [hf.1 a (by omega) (by omega)]; exact hF.1 a ha, fun j h1 h2 => by rw [hf.2 j h2]; exact hF.2 j h1 h2, hP.tf hf.1, by rw [hf.2 4 (by decide)]; exact h4, hL⟩
    · have kN : i < zN S := by omega
      have k6 := zS6 s6 kN
      have k7 := zS7 s7 kN
      have a6 := zv_st (t := t + 1) hM kN
      have a7 := zv_st (t := t) hM kN
      have b6 := (zv_rg (t := t + 1) hM kN).2
      have b7 := (zv_rg (t := t) hM kN).2
      have q1 : τ 202 (84 + i) = zv S t 1 i := by rw [hf.1 202 (by decide) (by decide)]; exact k7.1
      have q2 : τ 202 (72 + i) = zv S (t + 1) 1 i := by rw [hf.1 202 (by decide) (by decide)]; exact k6.1
      have q3 : τ 204 (84 + i) = zv S t 3 i := by rw [hf.1 204 (by decide) (by decide)]; exact k7.2.2.1
      have q4 : τ 204 (72 + i) = zv S (t + 1) 3 i := by rw [hf.1 204 (by decide) (by decide)]; exact k6.2.2.1
      have q5 : τ 203 (72 + i) = zv S (t + 1) 2 i := by rw [hf.1 203 (by decide) (by decide)]; exact k6.2.1
      have q6 : τ 189 4 = t + 1 := by rw [hf.2 4 (by decide)]; exact h4
      have ev : zev S (t + 1) i = zev1 (t + 1) i (zv S (t + 1) 1 i) (zv S (t + 1) 2 i) (zv S (t + 1) 3 i) (decide (zv S t 1 i = 2)) (zv S t 3 i) := by unfold zev; rw [show t + 1 - 1 = t by omega]
      have NX : ∀ (x3 : Int) (υ' : zSt) (v : Int), zTf τ υ' → zRq υ' ((L ++ zevk S (t + 1) i) ++ zev S (t + 1) i) → Go G X m_Md_steps (17, 0, 0, 0, 0) n SH υ' 117 [(0, vr G 189), (1, vi (i : Int)), (2, vi v)] [] (zV n SH (fun σ' => zStpM σ σ' S t (L ++ zevk S (t + 1) (zN S)))) := by
        intro x3 υ' v g1 g2
        refine g_iinc (i := 1) (b := 1) (L' := [(0, _), (1, _), (2, _)]) (by decide +kernel) rfl rfl rfl ?_
        refine g_goto (off := -88) (tgt := 32) (by decide +kernel) (by decide) ?_
        refine g_less [0, 1] rfl ?_
        exact ih (i + 1) _ υ' (by push_cast; rfl) (hf.tr g1) (by rw [zevk_s, ← List.append_assoc]; exact g2) (by omega) (by omega)
      refine g_aload_n (i := 0) (by decide +kernel) rfl ?_
      refine g_getr f_Md_88 (by decide +kernel) (by omega) rfl rfl ?_
      refine g_bipush (a := 84) (by decide +kernel) (by decide) ?_
      refine g_iload_n (i := 1) (by decide +kernel) rfl ?_
      refine g_iadd (by decide +kernel) ?_
      refine g_iald (j := (84 + i)) (by decide +kernel) (by omega) rfl (by push_cast; rfl) (by omega) (by decide) ?_
      refine g_iconst (a := 2) (by decide +kernel) ?_
      refine g_icmp_ne (off := 7) (tgt := 57) (by decide +kernel) (by decide) ⟨by omega, by omega⟩ ⟨by omega, by omega⟩ (fun h50 => ?_) (fun h50 => ?_)
      · refine g_iconst (a := 0) (by decide +kernel) ?_
        refine g_istore_n (i := 2) (L' := [(0, _), (1, _), (2, _)]) (by decide +kernel) rfl rfl ?_
        refine g_iload_n (i := 2) (by decide +kernel) rfl ?_
        refine g_aload_n (i := 0) (by decide +kernel) rfl ?_
        refine g_iload_n (i := 1) (by decide +kernel) rfl ?_
        refine g_cVI (st := _) (c_Md_plays (k := i) hn (by omega) ⟨by omega, by omega⟩) k_Md_plays l_Md_421 (by decide +kernel) (by omega) rfl rfl rfl rfl (Nat.le_of_ble_eq_true rfl) (by decide) ⟨by decide, by decide⟩ ?_
        rintro a9 σ9 ⟨ea9, hσ9⟩
        obtain rfl := hσ9.symm
        rw [q2] at ea9
        have a01 : (a9 = 1 ∧ zv S (t + 1) 1 i = 2) ∨ (a9 = 0 ∧ zv S (t + 1) 1 i ≠ 2) := by
          by_cases z : zv S (t + 1) 1 i = 2
          · exact Or.inl ⟨by rw [ea9, if_pos z], z⟩
          · exact Or.inr ⟨by rw [ea9, if_neg z], z⟩
        refine g_icmp_eq (off := 20) (tgt := 85) (by decide +kernel) (by decide) ⟨by omega, by omega⟩ ⟨by omega, by omega⟩ (fun h65 => ?_) (fun h65 => ?_)
        · refine g_iload_n (i := 2) (by decide +kernel) rfl ?_
          refine g_if_eq (off := 31) (tgt := 117) (by decide +kernel) (by decide) ⟨by omega, by omega⟩ (fun h86 => ?_) (fun h86 => ?_)
          · first
              | (refine NX 0 _ _ g1 ?_
                 rw [ev]
                 unfold zev1
                 first
                   | (rw [if_pos ⟨by omega, decide_eq_false (by omega)⟩]
                      rw [if_neg (by omega)] at g2
                      exact g2)
                   | (rw [if_neg (fun y => by have := of_decide_eq_false y.2; omega), if_pos ⟨by omega, decide_eq_true (by omega)⟩]
                      rw [if_pos (by omega)] at g2
                      exact g2)
                   | (have hz : τ 204 (84 + i) ≠ τ 204 (72 + i) := h108
                      rw [if_neg (fun y => by have := of_decide_eq_false y.2; omega), if_neg (fun y => by omega), if_pos ⟨by omega, by omega⟩]
                      rw [if_neg (by omega)] at g2
                      exact g2))
              | (refine NX 0 _ _ (zTf.rf τ) ?_
                 have ne : zev S (t + 1) i = [] := by
                   rw [ev]
                   unfold zev1
                   first
                     | (have hz : τ 204 (84 + i) = τ 204 (72 + i) := h108
                        rw [if_neg (fun y => by have := of_decide_eq_false y.2; omega), if_neg (fun y => by have := of_decide_eq_true y.2; omega), if_neg (fun y => by omega)])
                     | rw [if_neg (fun y => by have := of_decide_eq_false y.2; omega), if_neg (fun y => by have := of_decide_eq_true y.2; omega), if_neg (fun y => by omega)]
                 rw [ne, List.append_nil]
                 exact hL)
          · refine g_aload_n (i := 0) (by decide +kernel) rfl ?_
            refine g_getr f_Md_94 (by decide +kernel) (by omega) rfl rfl ?_
            refine g_bipush (a := 84) (by decide +kernel) (by decide) ?_
            refine g_iload_n (i := 1) (by decide +kernel) rfl ?_
            refine g_iadd (by decide +kernel) ?_
            refine g_lald (j := (84 + i)) (by decide +kernel) (by omega) rfl (by push_cast; rfl) (by omega) (by decide) ?_
            refine g_aload_n (i := 0) (by decide +kernel) rfl ?_
            refine g_getr f_Md_94 (by decide +kernel) (by omega) rfl rfl ?_
            refine g_bipush (a := 72) (by decide +kernel) (by decide) ?_
            refine g_iload_n (i := 1) (by decide +kernel) rfl ?_
            refine g_iadd (by decide +kernel) ?_
            refine g_lald (j := (72 + i)) (by decide +kernel) (by omega) rfl (by push_cast; rfl) (by omega) (by decide) ?_
            refine g_lcmp (by decide +kernel) ⟨by omega, by omega⟩ ⟨by omega, by omega⟩ ?_
            refine g_if_eq (off := 9) (tgt := 117) (by decide +kernel) (by decide) zcmp_r (fun h108 => ?_) (fun h108 => ?_)
            · have h108 := zcmp_eq.mp h108
              first
                | (refine NX 0 _ _ g1 ?_
                   rw [ev]
                   unfold zev1
                   first
                     | (rw [if_pos ⟨by omega, decide_eq_false (by omega)⟩]
                        rw [if_neg (by omega)] at g2
                        exact g2)
                     | (rw [if_neg (fun y => by have := of_decide_eq_false y.2; omega), if_pos ⟨by omega, decide_eq_true (by omega)⟩]
                        rw [if_pos (by omega)] at g2
                        exact g2)
                     | (have hz : τ 204 (84 + i) ≠ τ 204 (72 + i) := h108
                        rw [if_neg (fun y => by have := of_decide_eq_false y.2; omega), if_neg (fun y => by omega), if_pos ⟨by omega, by omega⟩]
                        rw [if_neg (by omega)] at g2
                        exact g2))
                | (refine NX 0 _ _ (zTf.rf τ) ?_
                   have ne : zev S (t + 1) i = [] := by
                     rw [ev]
                     unfold zev1
                     first
                       | (have hz : τ 204 (84 + i) = τ 204 (72 + i) := h108
                          rw [if_neg (fun y => by have := of_decide_eq_false y.2; omega), if_neg (fun y => by have := of_decide_eq_true y.2; omega), if_neg (fun y => by omega)])
                       | rw [if_neg (fun y => by have := of_decide_eq_false y.2; omega), if_neg (fun y => by have := of_decide_eq_true y.2; omega), if_neg (fun y => by omega)]
                   rw [ne, List.append_nil]
                   exact hL)
            · have h108 := zcmp_ne.mp h108
              refine g_aload_n (i := 0) (by decide +kernel) rfl ?_
              refine g_iconst (a := 2) (by decide +kernel) ?_
              refine g_iload_n (i := 1) (by decide +kernel) rfl ?_
              refine g_cVV (st := _) (c_Md_tells (k := i) hn hL lk (by omega) (by omega)) k_Md_tells l_Md_458 (by decide +kernel) (by omega) rfl rfl rfl rfl (Nat.le_of_ble_eq_true rfl) (by decide) ⟨by decide, by decide⟩ ?_
              rintro υ' ⟨g1, g2⟩
              rw [q6, q5] at g2
              first
                | (refine NX 0 _ _ g1 ?_
                   rw [ev]
                   unfold zev1
                   first
                     | (rw [if_pos ⟨by omega, decide_eq_false (by omega)⟩]
                        rw [if_neg (by omega)] at g2
                        exact g2)
                     | (rw [if_neg (fun y => by have := of_decide_eq_false y.2; omega), if_pos ⟨by omega, decide_eq_true (by omega)⟩]
                        rw [if_pos (by omega)] at g2
                        exact g2)
                     | (have hz : τ 204 (84 + i) ≠ τ 204 (72 + i) := h108
                        rw [if_neg (fun y => by have := of_decide_eq_false y.2; omega), if_neg (fun y => by omega), if_pos ⟨by omega, by omega⟩]
                        rw [if_neg (by omega)] at g2
                        exact g2))
                | (refine NX 0 _ _ (zTf.rf τ) ?_
                   have ne : zev S (t + 1) i = [] := by
                     rw [ev]
                     unfold zev1
                     first
                       | (have hz : τ 204 (84 + i) = τ 204 (72 + i) := h108
                          rw [if_neg (fun y => by have := of_decide_eq_false y.2; omega), if_neg (fun y => by have := of_decide_eq_true y.2; omega), if_neg (fun y => by omega)])
                       | rw [if_neg (fun y => by have := of_decide_eq_false y.2; omega), if_neg (fun y => by have := of_decide_eq_true y.2; omega), if_neg (fun y => by omega)]
                   rw [ne, List.append_nil]
                   exact hL)
        · refine g_aload_n (i := 0) (by decide +kernel) rfl ?_
          refine g_iload_n (i := 2) (by decide +kernel) rfl ?_
          refine g_if_eq (off := 7) (tgt := 77) (by decide +kernel) (by decide) ⟨by omega, by omega⟩ (fun h70 => ?_) (fun h70 => ?_)
          · refine g_iconst (a := 0) (by decide +kernel) ?_
            refine g_iload_n (i := 1) (by decide +kernel) rfl ?_
            refine g_cVV (st := _) (c_Md_tells (k := i) hn hL lk (by omega) (by omega)) k_Md_tells l_Md_458 (by decide +kernel) (by omega) rfl rfl rfl rfl (Nat.le_of_ble_eq_true rfl) (by decide) ⟨by decide, by decide⟩ ?_
            rintro υ' ⟨g1, g2⟩
            rw [q6, q5] at g2
            refine g_goto (off := 35) (tgt := 117) (by decide +kernel) (by decide) ?_
            first
              | (refine NX 0 _ _ g1 ?_
                 rw [ev]
                 unfold zev1
                 first
                   | (rw [if_pos ⟨by omega, decide_eq_false (by omega)⟩]
                      rw [if_neg (by omega)] at g2
                      exact g2)
                   | (rw [if_neg (fun y => by have := of_decide_eq_false y.2; omega), if_pos ⟨by omega, decide_eq_true (by omega)⟩]
                      rw [if_pos (by omega)] at g2
                      exact g2)
                   | (have hz : τ 204 (84 + i) ≠ τ 204 (72 + i) := h108
                      rw [if_neg (fun y => by have := of_decide_eq_false y.2; omega), if_neg (fun y => by omega), if_pos ⟨by omega, by omega⟩]
                      rw [if_neg (by omega)] at g2
                      exact g2))
              | (refine NX 0 _ _ (zTf.rf τ) ?_
                 have ne : zev S (t + 1) i = [] := by
                   rw [ev]
                   unfold zev1
                   first
                     | (have hz : τ 204 (84 + i) = τ 204 (72 + i) := h108
                        rw [if_neg (fun y => by have := of_decide_eq_false y.2; omega), if_neg (fun y => by have := of_decide_eq_true y.2; omega), if_neg (fun y => by omega)])
                     | rw [if_neg (fun y => by have := of_decide_eq_false y.2; omega), if_neg (fun y => by have := of_decide_eq_true y.2; omega), if_neg (fun y => by omega)]
                 rw [ne, List.append_nil]
                 exact hL)
          · refine g_iconst (a := 1) (by decide +kernel) ?_
            refine g_goto (off := 4) (tgt := 78) (by decide +kernel) (by decide) ?_
            refine g_iload_n (i := 1) (by decide +kernel) rfl ?_
            refine g_cVV (st := _) (c_Md_tells (k := i) hn hL lk (by omega) (by omega)) k_Md_tells l_Md_458 (by decide +kernel) (by omega) rfl rfl rfl rfl (Nat.le_of_ble_eq_true rfl) (by decide) ⟨by decide, by decide⟩ ?_
            rintro υ' ⟨g1, g2⟩
            rw [q6, q5] at g2
            refine g_goto (off := 35) (tgt := 117) (by decide +kernel) (by decide) ?_
            first
              | (refine NX 0 _ _ g1 ?_
                 rw [ev]
                 unfold zev1
                 first
                   | (rw [if_pos ⟨by omega, decide_eq_false (by omega)⟩]
                      rw [if_neg (by omega)] at g2
                      exact g2)
                   | (rw [if_neg (fun y => by have := of_decide_eq_false y.2; omega), if_pos ⟨by omega, decide_eq_true (by omega)⟩]
                      rw [if_pos (by omega)] at g2
                      exact g2)
                   | (have hz : τ 204 (84 + i) ≠ τ 204 (72 + i) := h108
                      rw [if_neg (fun y => by have := of_decide_eq_false y.2; omega), if_neg (fun y => by omega), if_pos ⟨by omega, by omega⟩]
                      rw [if_neg (by omega)] at g2
                      exact g2))
              | (refine NX 0 _ _ (zTf.rf τ) ?_
                 have ne : zev S (t + 1) i = [] := by
                   rw [ev]
                   unfold zev1
                   first
                     | (have hz : τ 204 (84 + i) = τ 204 (72 + i) := h108
                        rw [if_neg (fun y => by have := of_decide_eq_false y.2; omega), if_neg (fun y => by have := of_decide_eq_true y.2; omega), if_neg (fun y => by omega)])
                     | rw [if_neg (fun y => by have := of_decide_eq_false y.2; omega), if_neg (fun y => by have := of_decide_eq_true y.2; omega), if_neg (fun y => by omega)]
                 rw [ne, List.append_nil]
                 exact hL)
      · refine g_iconst (a := 1) (by decide +kernel) ?_
        refine g_goto (off := 4) (tgt := 58) (by decide +kernel) (by decide) ?_
        refine g_istore_n (i := 2) (L' := [(0, _), (1, _), (2, _)]) (by decide +kernel) rfl rfl ?_
        refine g_iload_n (i := 2) (by decide +kernel) rfl ?_
        refine g_aload_n (i := 0) (by decide +kernel) rfl ?_
        refine g_iload_n (i := 1) (by decide +kernel) rfl ?_
        refine g_cVI (st := _) (c_Md_plays (k := i) hn (by omega) ⟨by omega, by omega⟩) k_Md_plays l_Md_421 (by decide +kernel) (by omega) rfl rfl rfl rfl (Nat.le_of_ble_eq_true rfl) (by decide) ⟨by decide, by decide⟩ ?_
        rintro a9 σ9 ⟨ea9, hσ9⟩
        obtain rfl := hσ9.symm
        rw [q2] at ea9
        have a01 : (a9 = 1 ∧ zv S (t + 1) 1 i = 2) ∨ (a9 = 0 ∧ zv S (t + 1) 1 i ≠ 2) := by
          by_cases z : zv S (t + 1) 1 i = 2
          · exact Or.inl ⟨by rw [ea9, if_pos z], z⟩
          · exact Or.inr ⟨by rw [ea9, if_neg z], z⟩
        refine g_icmp_eq (off := 20) (tgt := 85) (by decide +kernel) (by decide) ⟨by omega, by omega⟩ ⟨by omega, by omega⟩ (fun h65 => ?_) (fun h65 => ?_)
        · refine g_iload_n (i := 2) (by decide +kernel) rfl ?_
          refine g_if_eq (off := 31) (tgt := 117) (by decide +kernel) (by decide) ⟨by omega, by omega⟩ (fun h86 => ?_) (fun h86 => ?_)
          · first
              | (refine NX 0 _ _ g1 ?_
                 rw [ev]
                 unfold zev1
                 first
                   | (rw [if_pos ⟨by omega, decide_eq_false (by omega)⟩]
                      rw [if_neg (by omega)] at g2
                      exact g2)
                   | (rw [if_neg (fun y => by have := of_decide_eq_false y.2; omega), if_pos ⟨by omega, decide_eq_true (by omega)⟩]
                      rw [if_pos (by omega)] at g2
                      exact g2)
                   | (have hz : τ 204 (84 + i) ≠ τ 204 (72 + i) := h108
                      rw [if_neg (fun y => by have := of_decide_eq_false y.2; omega), if_neg (fun y => by omega), if_pos ⟨by omega, by omega⟩]
                      rw [if_neg (by omega)] at g2
                      exact g2))
              | (refine NX 0 _ _ (zTf.rf τ) ?_
                 have ne : zev S (t + 1) i = [] := by
                   rw [ev]
                   unfold zev1
                   first
                     | (have hz : τ 204 (84 + i) = τ 204 (72 + i) := h108
                        rw [if_neg (fun y => by have := of_decide_eq_false y.2; omega), if_neg (fun y => by have := of_decide_eq_true y.2; omega), if_neg (fun y => by omega)])
                     | rw [if_neg (fun y => by have := of_decide_eq_false y.2; omega), if_neg (fun y => by have := of_decide_eq_true y.2; omega), if_neg (fun y => by omega)]
                 rw [ne, List.append_nil]
                 exact hL)
          · refine g_aload_n (i := 0) (by decide +kernel) rfl ?_
            refine g_getr f_Md_94 (by decide +kernel) (by omega) rfl rfl ?_
            refine g_bipush (a := 84) (by decide +kernel) (by decide) ?_
            refine g_iload_n (i := 1) (by decide +kernel) rfl ?_
            refine g_iadd (by decide +kernel) ?_
            refine g_lald (j := (84 + i)) (by decide +kernel) (by omega) rfl (by push_cast; rfl) (by omega) (by decide) ?_
            refine g_aload_n (i := 0) (by decide +kernel) rfl ?_
            refine g_getr f_Md_94 (by decide +kernel) (by omega) rfl rfl ?_
            refine g_bipush (a := 72) (by decide +kernel) (by decide) ?_
            refine g_iload_n (i := 1) (by decide +kernel) rfl ?_
            refine g_iadd (by decide +kernel) ?_
            refine g_lald (j := (72 + i)) (by decide +kernel) (by omega) rfl (by push_cast; rfl) (by omega) (by decide) ?_
            refine g_lcmp (by decide +kernel) ⟨by omega, by omega⟩ ⟨by omega, by omega⟩ ?_
            refine g_if_eq (off := 9) (tgt := 117) (by decide +kernel) (by decide) zcmp_r (fun h108 => ?_) (fun h108 => ?_)
            · have h108 := zcmp_eq.mp h108
              first
                | (refine NX 0 _ _ g1 ?_
                   rw [ev]
                   unfold zev1
                   first
                     | (rw [if_pos ⟨by omega, decide_eq_false (by omega)⟩]
                        rw [if_neg (by omega)] at g2
                        exact g2)
                     | (rw [if_neg (fun y => by have := of_decide_eq_false y.2; omega), if_pos ⟨by omega, decide_eq_true (by omega)⟩]
                        rw [if_pos (by omega)] at g2
                        exact g2)
                     | (have hz : τ 204 (84 + i) ≠ τ 204 (72 + i) := h108
                        rw [if_neg (fun y => by have := of_decide_eq_false y.2; omega), if_neg (fun y => by omega), if_pos ⟨by omega, by omega⟩]
                        rw [if_neg (by omega)] at g2
                        exact g2))
                | (refine NX 0 _ _ (zTf.rf τ) ?_
                   have ne : zev S (t + 1) i = [] := by
                     rw [ev]
                     unfold zev1
                     first
                       | (have hz : τ 204 (84 + i) = τ 204 (72 + i) := h108
                          rw [if_neg (fun y => by have := of_decide_eq_false y.2; omega), if_neg (fun y => by have := of_decide_eq_true y.2; omega), if_neg (fun y => by omega)])
                       | rw [if_neg (fun y => by have := of_decide_eq_false y.2; omega), if_neg (fun y => by have := of_decide_eq_true y.2; omega), if_neg (fun y => by omega)]
                   rw [ne, List.append_nil]
                   exact hL)
            · have h108 := zcmp_ne.mp h108
              refine g_aload_n (i := 0) (by decide +kernel) rfl ?_
              refine g_iconst (a := 2) (by decide +kernel) ?_
              refine g_iload_n (i := 1) (by decide +kernel) rfl ?_
              refine g_cVV (st := _) (c_Md_tells (k := i) hn hL lk (by omega) (by omega)) k_Md_tells l_Md_458 (by decide +kernel) (by omega) rfl rfl rfl rfl (Nat.le_of_ble_eq_true rfl) (by decide) ⟨by decide, by decide⟩ ?_
              rintro υ' ⟨g1, g2⟩
              rw [q6, q5] at g2
              first
                | (refine NX 0 _ _ g1 ?_
                   rw [ev]
                   unfold zev1
                   first
                     | (rw [if_pos ⟨by omega, decide_eq_false (by omega)⟩]
                        rw [if_neg (by omega)] at g2
                        exact g2)
                     | (rw [if_neg (fun y => by have := of_decide_eq_false y.2; omega), if_pos ⟨by omega, decide_eq_true (by omega)⟩]
                        rw [if_pos (by omega)] at g2
                        exact g2)
                     | (have hz : τ 204 (84 + i) ≠ τ 204 (72 + i) := h108
                        rw [if_neg (fun y => by have := of_decide_eq_false y.2; omega), if_neg (fun y => by omega), if_pos ⟨by omega, by omega⟩]
                        rw [if_neg (by omega)] at g2
                        exact g2))
                | (refine NX 0 _ _ (zTf.rf τ) ?_
                   have ne : zev S (t + 1) i = [] := by
                     rw [ev]
                     unfold zev1
                     first
                       | (have hz : τ 204 (84 + i) = τ 204 (72 + i) := h108
                          rw [if_neg (fun y => by have := of_decide_eq_false y.2; omega), if_neg (fun y => by have := of_decide_eq_true y.2; omega), if_neg (fun y => by omega)])
                       | rw [if_neg (fun y => by have := of_decide_eq_false y.2; omega), if_neg (fun y => by have := of_decide_eq_true y.2; omega), if_neg (fun y => by omega)]
                   rw [ne, List.append_nil]
                   exact hL)
        · refine g_aload_n (i := 0) (by decide +kernel) rfl ?_
          refine g_iload_n (i := 2) (by decide +kernel) rfl ?_
          refine g_if_eq (off := 7) (tgt := 77) (by decide +kernel) (by decide) ⟨by omega, by omega⟩ (fun h70 => ?_) (fun h70 => ?_)
          · refine g_iconst (a := 0) (by decide +kernel) ?_
            refine g_iload_n (i := 1) (by decide +kernel) rfl ?_
            refine g_cVV (st := _) (c_Md_tells (k := i) hn hL lk (by omega) (by omega)) k_Md_tells l_Md_458 (by decide +kernel) (by omega) rfl rfl rfl rfl (Nat.le_of_ble_eq_true rfl) (by decide) ⟨by decide, by decide⟩ ?_
            rintro υ' ⟨g1, g2⟩
            rw [q6, q5] at g2
            refine g_goto (off := 35) (tgt := 117) (by decide +kernel) (by decide) ?_
            first
              | (refine NX 0 _ _ g1 ?_
                 rw [ev]
                 unfold zev1
                 first
                   | (rw [if_pos ⟨by omega, decide_eq_false (by omega)⟩]
                      rw [if_neg (by omega)] at g2
                      exact g2)
                   | (rw [if_neg (fun y => by have := of_decide_eq_false y.2; omega), if_pos ⟨by omega, decide_eq_true (by omega)⟩]
                      rw [if_pos (by omega)] at g2
                      exact g2)
                   | (have hz : τ 204 (84 + i) ≠ τ 204 (72 + i) := h108
                      rw [if_neg (fun y => by have := of_decide_eq_false y.2; omega), if_neg (fun y => by omega), if_pos ⟨by omega, by omega⟩]
                      rw [if_neg (by omega)] at g2
                      exact g2))
              | (refine NX 0 _ _ (zTf.rf τ) ?_
                 have ne : zev S (t + 1) i = [] := by
                   rw [ev]
                   unfold zev1
                   first
                     | (have hz : τ 204 (84 + i) = τ 204 (72 + i) := h108
                        rw [if_neg (fun y => by have := of_decide_eq_false y.2; omega), if_neg (fun y => by have := of_decide_eq_true y.2; omega), if_neg (fun y => by omega)])
                     | rw [if_neg (fun y => by have := of_decide_eq_false y.2; omega), if_neg (fun y => by have := of_decide_eq_true y.2; omega), if_neg (fun y => by omega)]
                 rw [ne, List.append_nil]
                 exact hL)
          · refine g_iconst (a := 1) (by decide +kernel) ?_
            refine g_goto (off := 4) (tgt := 78) (by decide +kernel) (by decide) ?_
            refine g_iload_n (i := 1) (by decide +kernel) rfl ?_
            refine g_cVV (st := _) (c_Md_tells (k := i) hn hL lk (by omega) (by omega)) k_Md_tells l_Md_458 (by decide +kernel) (by omega) rfl rfl rfl rfl (Nat.le_of_ble_eq_true rfl) (by decide) ⟨by decide, by decide⟩ ?_
            rintro υ' ⟨g1, g2⟩
            rw [q6, q5] at g2
            refine g_goto (off := 35) (tgt := 117) (by decide +kernel) (by decide) ?_
            first
              | (refine NX 0 _ _ g1 ?_
                 rw [ev]
                 unfold zev1
                 first
                   | (rw [if_pos ⟨by omega, decide_eq_false (by omega)⟩]
                      rw [if_neg (by omega)] at g2
                      exact g2)
                   | (rw [if_neg (fun y => by have := of_decide_eq_false y.2; omega), if_pos ⟨by omega, decide_eq_true (by omega)⟩]
                      rw [if_pos (by omega)] at g2
                      exact g2)
                   | (have hz : τ 204 (84 + i) ≠ τ 204 (72 + i) := h108
                      rw [if_neg (fun y => by have := of_decide_eq_false y.2; omega), if_neg (fun y => by omega), if_pos ⟨by omega, by omega⟩]
                      rw [if_neg (by omega)] at g2
                      exact g2))
              | (refine NX 0 _ _ (zTf.rf τ) ?_
                 have ne : zev S (t + 1) i = [] := by
                   rw [ev]
                   unfold zev1
                   first
                     | (have hz : τ 204 (84 + i) = τ 204 (72 + i) := h108
                        rw [if_neg (fun y => by have := of_decide_eq_false y.2; omega), if_neg (fun y => by have := of_decide_eq_true y.2; omega), if_neg (fun y => by omega)])
                     | rw [if_neg (fun y => by have := of_decide_eq_false y.2; omega), if_neg (fun y => by have := of_decide_eq_true y.2; omega), if_neg (fun y => by omega)]
                 rw [ne, List.append_nil]
                 exact hL)
theorem c_Md_steps {G : zG} {n : Nat} {σ : zSt} {S : zSt} {t : Int} {L : List zE4} (hn : 220 ≤ n) (hM : zMz S) (hP : zPd σ S) (h4 : σ 189 4 = t) (ht : 0 ≤ t ∧ t + 1 ≤ 1999) (hL : zRq σ L) (hl : L.length ≤ 4900) : Gm G y_Md_steps m_Md_steps 17 0 0 [vr G 189] n SH σ (zV n SH (fun σ' => zStpM σ σ' S t (L ++ zevk S (t + 1) (zN S)))) := by
  refine g_enter (L := [(0, _)]) (by decide) rfl rfl rfl (Nat.le_of_ble_eq_true rfl) (fun X => ?_)
  have hN := hP.2.1.N
  have hz : zN S = (S 0 0).toNat := rfl
  refine g_aload_n (i := 0) (by decide +kernel) rfl ?_
  refine g_bipush (a := 7) (by decide +kernel) (by decide) ?_
  refine g_aload_n (i := 0) (by decide +kernel) rfl ?_
  refine g_geti f_Md_307 (by decide +kernel) (by omega) rfl rfl ?_
  rw [h4]
  refine g_cVV (st := _) (c_Md_laysSlot (s := 7) (t := t) hn (hP.x (by decide) _) (fun i hi _ => by omega) ⟨by omega, by omega⟩) k_Md_laysSlot l_Md_372 (by decide +kernel) (by omega) rfl rfl rfl rfl (Nat.le_of_ble_eq_true rfl) (by decide) ⟨by decide, by decide⟩ ?_
  rintro τ ⟨hr7, h7⟩
  have hP7 := hP.slot (by decide) hr7
  refine g_aload_n (i := 0) (by decide +kernel) rfl ?_
  refine g_dup (by decide +kernel) rfl ?_
  refine g_geti f_Md_307 (by decide +kernel) (by omega) rfl rfl ?_
  refine g_iconst (a := 1) (by decide +kernel) ?_
  refine g_iadd (by decide +kernel) ?_
  refine g_puti f_Md_307 (by decide +kernel) (by omega) rfl rfl ?_
  obtain ⟨ψ, eψ⟩ : ∃ ψ, ψ = zs τ 189 4 (τ 189 4 + 1) := ⟨_, rfl⟩
  rw [← eψ]
  have p0 : ∀ a, a ≠ 189 → ψ a = τ a := fun a ha => by rw [eψ, zs_other ha]
  have p4 : ψ 189 4 = t + 1 := by rw [eψ, zs_eq, hr7.1 189 (by omega), h4]
  have pj : ∀ j, j ≠ 4 → ψ 189 j = τ 189 j := fun j hj => by rw [eψ, zs_ne (fun y => hj y.2)]
  have hPp : zPd ψ S := hP7.tf (fun a h1 _ => p0 a h1)
  have g7 : zSo2 ψ S 7 t (zN S) := fun k hk => by rw [p0 202 (by decide), p0 203 (by decide), p0 204 (by decide), p0 205 (by decide), p0 206 (by decide)]; exact h7 k hk
  refine g_aload_n (i := 0) (by decide +kernel) rfl ?_
  refine g_bipush (a := 6) (by decide +kernel) (by decide) ?_
  refine g_aload_n (i := 0) (by decide +kernel) rfl ?_
  refine g_geti f_Md_307 (by decide +kernel) (by omega) rfl rfl ?_
  rw [p4]
  refine g_cVV (st := _) (c_Md_laysSlot (s := 6) (t := t + 1) hn (hPp.x (by decide) _) (fun i hi _ => by omega) ⟨by omega, by omega⟩) k_Md_laysSlot l_Md_372 (by decide +kernel) (by omega) rfl rfl rfl rfl (Nat.le_of_ble_eq_true rfl) (by decide) ⟨by decide, by decide⟩ ?_
  rintro ω ⟨hr6, h6⟩
  have hP6 := hPp.slot (by decide) hr6
  have q7 := hr6.o2 (p := 7) (by decide) (by omega) g7
  refine g_iconst (a := 0) (by decide +kernel) ?_
  refine g_istore_n (i := 1) (L' := [(0, _), (1, _)]) (by decide +kernel) rfl rfl ?_
  refine w_Md_steps hn hM ⟨fun a ha => ?_, fun j h1 h2 => ?_⟩ hP6 (by rw [hr6.1 189 (by omega)]; exact p4) h6 q7 hl (zN S + 1) 0 _ ω rfl (zTf.rf ω) ?_ (by omega) (by omega)
  · rw [hr6.1 a (by omega), p0 a (by omega), hr7.1 a (by omega)]
  · rw [hr6.1 189 (by omega), pj j h1, hr7.1 189 (by omega)]
  · show zRq ω (L ++ [])
    rw [List.append_nil]
    exact hL.moved (fun a ha => by rw [hr6.1 a (by omega), p0 a (by omega), hr7.1 a (by omega)]) (by rw [hr6.1 189 (by omega), pj 49 (by decide), hr7.1 189 (by omega)])
def zMP (σ τ : zSt) : Prop := (∀ a, (a < 189 ∨ a = 190 ∨ (196 ≤ a ∧ a ≤ 201)) → τ a = σ a) ∧ ∀ j, (j = 1 ∨ j = 11 ∨ j = 12 ∨ j = 13) → τ 189 j = σ 189 j
theorem w_Md_play {G : zG} {X : zX} {n : Nat} {σ : zSt} {S : zSt} {c : Nat} {t : Int} (hn : 220 ≤ n) (hM : zMz S) (et : t = σ 189 4) (ht : 0 ≤ t ∧ t + c ≤ 1999) (hc : 1 ≤ c ∧ c ≤ 200) (h12 : zN S ≤ 12)  : ∀ (m : Nat) (i : Nat) (x2 : Int) (τ : zSt), x2 = (i : Int) → zMP σ τ → τ 189 2 = 0 → zPd τ S → τ 189 4 = t + i → zRq τ (zlog S t i) → i ≤ c → c < i + m → Go G X m_Md_play (18, 0, 0, 0, 0) n SH τ 50 [(0, vr G 189), (1, vi (c : Int)), (2, vi x2)] [] (zI n SH (fun a σ' => (¬ (1 ≤ (c : Int) ∧ (c : Int) ≤ 200 ∧ σ 189 4 + (c : Int) ≤ 1999) ∧ zRM σ σ' a 1 0) ∨ ((1 ≤ (c : Int) ∧ (c : Int) ≤ 200 ∧ σ 189 4 + (c : Int) ≤ 1999) ∧ zMP σ σ' ∧ σ' 189 2 = 0 ∧ σ' 189 4 = σ 189 4 + (c : Int) ∧ zRq σ' (zlog S (σ 189 4) (c : Int).toNat) ∧ a = ((zlog S (σ 189 4) (c : Int).toNat).length : Int)))) := by
  intro m
  induction m with
  | zero => intro i x2 τ e2 hf s1 hP h4 hL hi hm; exact absurd hm (by omega)
  | succ m ih =>
    intro i x2 τ e2 hf s1 hP h4 hL hi hm
    subst e2
    have ll := zlog_len S t h12 i
    refine g_iload_n (i := 2) (by decide +kernel) rfl ?_
    refine g_iload_n (i := 1) (by decide +kernel) rfl ?_
    refine g_icmp_ge (off := 13) (tgt := 65) (by decide +kernel) (by decide) ⟨by omega, by omega⟩ ⟨by omega, by omega⟩ (fun h52 => ?_) (fun h52 => ?_)
    · refine g_aload_n (i := 0) (by decide +kernel) rfl ?_
      refine g_geti f_Md_310 (by decide +kernel) (by omega) rfl rfl ?_
      refine g_retI (by decide +kernel) rfl (Or.inl rfl) ⟨by decide, by decide⟩ ?_
      rw [show i = c by omega] at hL h4
      rw [Int.toNat_natCast, ← et]
      exact Or.inr ⟨by omega, hf, s1, h4, hL, hL.1⟩
    · refine g_aload_n (i := 0) (by decide +kernel) rfl ?_
      refine g_cVV (st := _) (c_Md_steps (t := t + i) hn hM hP h4 ⟨by omega, by omega⟩ hL (by omega)) k_Md_steps l_Md_461 (by decide +kernel) (by omega) rfl rfl rfl rfl (Nat.le_of_ble_eq_true rfl) (by decide) ⟨by decide, by decide⟩ ?_
      rintro ω ⟨g1, g2, g3, g4, g5⟩
      refine g_iinc (i := 2) (b := 1) (L' := [(0, _), (1, _), (2, _)]) (by decide +kernel) rfl rfl rfl ?_
      refine g_goto (off := -12) (tgt := 50) (by decide +kernel) (by decide) ?_
      exact ih (i + 1) _ ω (by push_cast; rfl) ⟨fun a ha => by rw [g1 a ha]; exact hf.1 a ha, fun j hj => by rw [g2 j (by omega) (by omega)]; exact hf.2 j hj⟩ (by rw [g2 2 (by decide) (by decide)]; exact s1) g3 (by rw [g4]; push_cast; omega) (by rw [zlog_s]; exact g5) (by omega) (by omega)
theorem c_Md_play {G : zG} {n : Nat} {σ : zSt} {S : zSt} (hn : 220 ≤ n) (hM : zMz S) (hS : zMc σ S) {u : Int} (z1 : zr u) (h0 : 0 ≤ σ 189 4 ∧ σ 189 4 ≤ 1999) : Gm G y_Md_play m_Md_play 18 0 0 [vr G 189, vi u] n SH σ (zI n SH (fun a σ' => (¬ (1 ≤ u ∧ u ≤ 200 ∧ σ 189 4 + u ≤ 1999) ∧ zRM σ σ' a 1 0) ∨ ((1 ≤ u ∧ u ≤ 200 ∧ σ 189 4 + u ≤ 1999) ∧ zMP σ σ' ∧ σ' 189 2 = 0 ∧ σ' 189 4 = σ 189 4 + u ∧ zRq σ' (zlog S (σ 189 4) u.toNat) ∧ a = ((zlog S (σ 189 4) u.toNat).length : Int)))) := by
  refine g_enter (L := [(0, _), (1, _)]) (by decide) rfl rfl rfl (Nat.le_of_ble_eq_true rfl) (fun X => ?_)
  have e0 := hS.n
  have e8 := hS.p
  have hN := hS.N
  have hz : zN S = (S 0 0).toNat := rfl
  obtain ⟨z1a, z1b⟩ := id z1
  refine g_aload_n (i := 0) (by decide +kernel) rfl ?_
  refine g_iconst (a := 0) (by decide +kernel) ?_
  refine g_puti f_Md_142 (by decide +kernel) (by omega) rfl rfl ?_
  refine g_aload_n (i := 0) (by decide +kernel) rfl ?_
  refine g_iconst (a := 0) (by decide +kernel) ?_
  refine g_puti f_Md_145 (by decide +kernel) (by omega) rfl rfl ?_
  obtain ⟨τ, eτ⟩ : ∃ τ, τ = zs (zs σ 189 3 0) 189 2 0 := ⟨_, rfl⟩
  rw [← eτ]
  have f0 : zMF σ τ := by rw [eτ]; exact ((zMF.rf σ).put (by decide)).put (by decide)
  have s0 : τ 189 2 = 0 := by rw [eτ, zs_eq]
  have hT : zMc τ S := hS.moved (f0.1 190 (by decide))
  have et := hT.n
  have ep := hT.p
  have e4 := f0.2 4 (by decide)
  refine g_iload_n (i := 1) (by decide +kernel) rfl ?_
  refine g_iconst (a := 1) (by decide +kernel) ?_
  refine g_sipush (a := 200) (by decide +kernel) (by decide) ?_
  refine g_cSI (st := _) (c_Md_isIn ⟨by omega, by omega⟩ ⟨by omega, by omega⟩ ⟨by omega, by omega⟩) k_Md_isIn l_Md_152 (by decide +kernel) rfl rfl (Nat.le_of_ble_eq_true rfl) (by decide) ⟨by decide, by decide⟩ ?_
  rintro a9 σ9 ⟨ea9, hσ9⟩
  obtain rfl := hσ9.symm
  subst ea9
  refine g_if_eq (off := 15) (tgt := 33) (by decide +kernel) (by decide) zbr (fun h18 => ?_) (fun h18 => ?_)
  · have h18 := zb0.mp h18
    refine g_aload_n (i := 0) (by decide +kernel) rfl ?_
    refine g_iconst (a := 1) (by decide +kernel) ?_
    refine g_cVI (st := _) (c_Md_refuse hn) k_Md_refuse l_Md_295 (by decide +kernel) (by omega) rfl rfl rfl rfl (Nat.le_of_ble_eq_true rfl) (by decide) ⟨by decide, by decide⟩ ?_
    rintro a9 σ9 ⟨ea9, hσ9⟩
    obtain rfl := ea9.symm
    subst hσ9
    refine g_retI (by decide +kernel) rfl (Or.inl rfl) ⟨by decide, by decide⟩ ?_
    exact Or.inl ⟨by omega, zRM.ref f0 rfl (by decide)⟩
  · have h18 := zb1.mp h18
    refine g_aload_n (i := 0) (by decide +kernel) rfl ?_
    refine g_geti f_Md_307 (by decide +kernel) (by omega) rfl rfl ?_
    refine g_iload_n (i := 1) (by decide +kernel) rfl ?_
    refine g_iadd (by decide +kernel) ?_
    refine g_sipush (a := 1999) (by decide +kernel) (by decide) ?_
    refine g_icmp_le (off := 9) (tgt := 39) (by decide +kernel) (by decide) ⟨by omega, by omega⟩ ⟨by omega, by omega⟩ (fun h30 => ?_) (fun h30 => ?_)
    · refine g_aload_n (i := 0) (by decide +kernel) rfl ?_
      refine g_cVV (st := _) (c_Md_laysPresses hn hM hT) k_Md_laysPresses l_Md_375 (by decide +kernel) (by omega) rfl rfl rfl rfl (Nat.le_of_ble_eq_true rfl) (by decide) ⟨by decide, by decide⟩ ?_
      rintro υ ⟨hf, hP⟩
      have f1 := f0.of (fun a ha => hf a (by omega))
      have s1 : υ 189 2 = 0 := by rw [hf 189 (by omega)]; exact s0
      refine g_aload_n (i := 0) (by decide +kernel) rfl ?_
      refine g_iconst (a := 0) (by decide +kernel) ?_
      refine g_puti f_Md_310 (by decide +kernel) (by omega) rfl rfl ?_
      obtain ⟨ψ, eψ⟩ : ∃ ψ, ψ = zs υ 189 49 0 := ⟨_, rfl⟩
      rw [← eψ]
      have p0 : ∀ a, a ≠ 189 → ψ a = υ a := fun a ha => by rw [eψ, zs_other ha]
      have pj : ∀ j, j ≠ 49 → ψ 189 j = υ 189 j := fun j hj => by rw [eψ, zs_ne (fun y => hj y.2)]
      have p49 : ψ 189 49 = 0 := by rw [eψ, zs_eq]
      have hPp : zPd ψ S := hP.tf (fun a h1 _ => p0 a h1)
      refine g_iconst (a := 0) (by decide +kernel) ?_
      refine g_istore_n (i := 2) (L' := [(0, _), (1, _), (2, _)]) (by decide +kernel) rfl rfl ?_
      obtain ⟨c, rfl⟩ := Int.eq_ofNat_of_zero_le (show 0 ≤ u by omega)
      exact w_Md_play (t := σ 189 4) hn hM rfl (by omega) (by omega) (by omega) (c + 1) 0 _ ψ rfl ⟨fun a ha => by rw [p0 a (by omega)]; exact f1.1 a (by omega), fun j hj => by rw [pj j (by omega)]; exact f1.2 j (by omega)⟩ (by rw [pj 2 (by decide)]; exact s1) hPp (by rw [pj 4 (by decide), f1.2 4 (by decide)]; show _ = _ + ((0 : Nat) : Int); omega) ⟨by rw [p49]; rfl, fun i _ h => absurd h (Nat.not_lt_zero i)⟩ (by omega) (by omega)
    · refine g_aload_n (i := 0) (by decide +kernel) rfl ?_
      refine g_iconst (a := 1) (by decide +kernel) ?_
      refine g_cVI (st := _) (c_Md_refuse hn) k_Md_refuse l_Md_295 (by decide +kernel) (by omega) rfl rfl rfl rfl (Nat.le_of_ble_eq_true rfl) (by decide) ⟨by decide, by decide⟩ ?_
      rintro a9 σ9 ⟨ea9, hσ9⟩
      obtain rfl := ea9.symm
      subst hσ9
      refine g_retI (by decide +kernel) rfl (Or.inl rfl) ⟨by decide, by decide⟩ ?_
      exact Or.inl ⟨by omega, zRM.ref f0 rfl (by decide)⟩
theorem c_Md_event {G : zG} {n : Nat} {σ : zSt} {S : zSt} (hn : 220 ≤ n) (hS : zMc σ S) {i w : Int} (z1 : zr i) (z2 : zr w) (h1e : 0 ≤ σ 189 49 ∧ σ 189 49 ≤ 5000) : Gm G y_Md_event m_Md_event 1 0 0 [vr G 189, vi i, vi w] n SH σ (zI n SH (fun a σ' => zRM σ σ' a (if i < 0 ∨ 64 ≤ i ∨ w < 0 ∨ 3 < w then 1 else if σ 189 49 ≤ i then 8 else 0) (σ (216 + w.toNat) i.toNat))) := by
  refine g_enter (L := [(0, _), (1, _), (2, _)]) (by decide) rfl rfl rfl (Nat.le_of_ble_eq_true rfl) (fun X => ?_)
  have e0 := hS.n
  have e8 := hS.p
  have hN := hS.N
  have hz : zN S = (S 0 0).toNat := rfl
  obtain ⟨z1a, z1b⟩ := id z1
  obtain ⟨z2a, z2b⟩ := id z2
  refine g_aload_n (i := 0) (by decide +kernel) rfl ?_
  refine g_iconst (a := 0) (by decide +kernel) ?_
  refine g_puti f_Md_142 (by decide +kernel) (by omega) rfl rfl ?_
  refine g_aload_n (i := 0) (by decide +kernel) rfl ?_
  refine g_iconst (a := 0) (by decide +kernel) ?_
  refine g_puti f_Md_145 (by decide +kernel) (by omega) rfl rfl ?_
  obtain ⟨τ, eτ⟩ : ∃ τ, τ = zs (zs σ 189 3 0) 189 2 0 := ⟨_, rfl⟩
  rw [← eτ]
  have f0 : zMF σ τ := by rw [eτ]; exact ((zMF.rf σ).put (by decide)).put (by decide)
  have s0 : τ 189 2 = 0 := by rw [eτ, zs_eq]
  have hT : zMc τ S := hS.moved (f0.1 190 (by decide))
  have et := hT.n
  have ep := hT.p
  have e49 := f0.2 49 (by decide)
  refine g_iload_n (i := 1) (by decide +kernel) rfl ?_
  refine g_iconst (a := 0) (by decide +kernel) ?_
  refine g_bipush (a := 63) (by decide +kernel) (by decide) ?_
  refine g_cSI (st := _) (c_Md_isIn ⟨by omega, by omega⟩ ⟨by omega, by omega⟩ ⟨by omega, by omega⟩) k_Md_isIn l_Md_152 (by decide +kernel) rfl rfl (Nat.le_of_ble_eq_true rfl) (by decide) ⟨by decide, by decide⟩ ?_
  rintro a9 σ9 ⟨ea9, hσ9⟩
  obtain rfl := hσ9.symm
  subst ea9
  refine g_if_eq (off := 12) (tgt := 29) (by decide +kernel) (by decide) zbr (fun h17 => ?_) (fun h17 => ?_)
  · have h17 := zb0.mp h17
    refine g_aload_n (i := 0) (by decide +kernel) rfl ?_
    refine g_iconst (a := 1) (by decide +kernel) ?_
    refine g_cVI (st := _) (c_Md_refuse hn) k_Md_refuse l_Md_295 (by decide +kernel) (by omega) rfl rfl rfl rfl (Nat.le_of_ble_eq_true rfl) (by decide) ⟨by decide, by decide⟩ ?_
    rintro a9 σ9 ⟨ea9, hσ9⟩
    obtain rfl := ea9.symm
    subst hσ9
    refine g_retI (by decide +kernel) rfl (Or.inl rfl) ⟨by decide, by decide⟩ ?_
    exact zRM.ref f0 (if_pos (by omega)) (by decide)
  · have h17 := zb1.mp h17
    refine g_iload_n (i := 2) (by decide +kernel) rfl ?_
    refine g_iconst (a := 0) (by decide +kernel) ?_
    refine g_iconst (a := 3) (by decide +kernel) ?_
    refine g_cSI (st := _) (c_Md_isIn ⟨by omega, by omega⟩ ⟨by omega, by omega⟩ ⟨by omega, by omega⟩) k_Md_isIn l_Md_152 (by decide +kernel) rfl rfl (Nat.le_of_ble_eq_true rfl) (by decide) ⟨by decide, by decide⟩ ?_
    rintro a9 σ9 ⟨ea9, hσ9⟩
    obtain rfl := hσ9.symm
    subst ea9
    refine g_if_ne (off := 9) (tgt := 35) (by decide +kernel) (by decide) zbr (fun h26 => ?_) (fun h26 => ?_)
    · have h26 := zb1.mp h26
      refine g_iload_n (i := 1) (by decide +kernel) rfl ?_
      refine g_aload_n (i := 0) (by decide +kernel) rfl ?_
      refine g_geti f_Md_310 (by decide +kernel) (by omega) rfl rfl ?_
      refine g_icmp_lt (off := 10) (tgt := 50) (by decide +kernel) (by decide) ⟨by omega, by omega⟩ ⟨by omega, by omega⟩ (fun h40 => ?_) (fun h40 => ?_)
      · obtain ⟨k, rfl⟩ := Int.eq_ofNat_of_zero_le (show 0 ≤ i by omega)
        refine g_iload_n (i := 2) (by decide +kernel) rfl ?_
        refine g_if_ne (off := 12) (tgt := 63) (by decide +kernel) (by decide) ⟨by omega, by omega⟩ (fun h51 => ?_) (fun h51 => ?_)
        · refine g_iload_n (i := 2) (by decide +kernel) rfl ?_
          refine g_iconst (a := 1) (by decide +kernel) ?_
          refine g_icmp_ne (off := 12) (tgt := 77) (by decide +kernel) (by decide) ⟨by omega, by omega⟩ ⟨by omega, by omega⟩ (fun h65 => ?_) (fun h65 => ?_)
          · refine g_iload_n (i := 2) (by decide +kernel) rfl ?_
            refine g_iconst (a := 2) (by decide +kernel) ?_
            refine g_icmp_ne (off := 12) (tgt := 91) (by decide +kernel) (by decide) ⟨by omega, by omega⟩ ⟨by omega, by omega⟩ (fun h79 => ?_) (fun h79 => ?_)
            · refine g_aload_n (i := 0) (by decide +kernel) rfl ?_
              refine g_getr f_Md_139 (by decide +kernel) (by omega) rfl rfl ?_
              refine g_iload_n (i := 1) (by decide +kernel) rfl ?_
              refine g_iald (j := k) (by decide +kernel) (by omega) rfl (by omega) (by omega) (by decide) ?_
              refine g_retI (by decide +kernel) rfl (Or.inl rfl) ⟨by decide, by decide⟩ ?_
              refine zRM.ok f0 (by rw [if_neg (by omega), if_neg (by omega)]) s0 ?_
              rw [Int.toNat_natCast]
              first
                | (have hz : w = 0 := h51
                   rw [hz]; show τ 216 k = σ 216 k; rw [f0.1 216 (by omega)])
                | (have hz : w = 1 := h65
                   rw [hz]; show τ 217 k = σ 217 k; rw [f0.1 217 (by omega)])
                | (have hz : w = 2 := h79
                   rw [hz]; show τ 218 k = σ 218 k; rw [f0.1 218 (by omega)])
                | (have hz : w = 3 := by omega
                   rw [hz]; show τ 219 k = σ 219 k; rw [f0.1 219 (by omega)])
            · refine g_aload_n (i := 0) (by decide +kernel) rfl ?_
              refine g_getr f_Md_136 (by decide +kernel) (by omega) rfl rfl ?_
              refine g_iload_n (i := 1) (by decide +kernel) rfl ?_
              refine g_iald (j := k) (by decide +kernel) (by omega) rfl (by omega) (by omega) (by decide) ?_
              refine g_goto (off := 9) (tgt := 97) (by decide +kernel) (by decide) ?_
              refine g_retI (by decide +kernel) rfl (Or.inl rfl) ⟨by decide, by decide⟩ ?_
              refine zRM.ok f0 (by rw [if_neg (by omega), if_neg (by omega)]) s0 ?_
              rw [Int.toNat_natCast]
              first
                | (have hz : w = 0 := h51
                   rw [hz]; show τ 216 k = σ 216 k; rw [f0.1 216 (by omega)])
                | (have hz : w = 1 := h65
                   rw [hz]; show τ 217 k = σ 217 k; rw [f0.1 217 (by omega)])
                | (have hz : w = 2 := h79
                   rw [hz]; show τ 218 k = σ 218 k; rw [f0.1 218 (by omega)])
                | (have hz : w = 3 := by omega
                   rw [hz]; show τ 219 k = σ 219 k; rw [f0.1 219 (by omega)])
          · refine g_aload_n (i := 0) (by decide +kernel) rfl ?_
            refine g_getr f_Md_133 (by decide +kernel) (by omega) rfl rfl ?_
            refine g_iload_n (i := 1) (by decide +kernel) rfl ?_
            refine g_iald (j := k) (by decide +kernel) (by omega) rfl (by omega) (by omega) (by decide) ?_
            refine g_goto (off := 23) (tgt := 97) (by decide +kernel) (by decide) ?_
            refine g_retI (by decide +kernel) rfl (Or.inl rfl) ⟨by decide, by decide⟩ ?_
            refine zRM.ok f0 (by rw [if_neg (by omega), if_neg (by omega)]) s0 ?_
            rw [Int.toNat_natCast]
            first
              | (have hz : w = 0 := h51
                 rw [hz]; show τ 216 k = σ 216 k; rw [f0.1 216 (by omega)])
              | (have hz : w = 1 := h65
                 rw [hz]; show τ 217 k = σ 217 k; rw [f0.1 217 (by omega)])
              | (have hz : w = 2 := h79
                 rw [hz]; show τ 218 k = σ 218 k; rw [f0.1 218 (by omega)])
              | (have hz : w = 3 := by omega
                 rw [hz]; show τ 219 k = σ 219 k; rw [f0.1 219 (by omega)])
        · refine g_aload_n (i := 0) (by decide +kernel) rfl ?_
          refine g_getr f_Md_130 (by decide +kernel) (by omega) rfl rfl ?_
          refine g_iload_n (i := 1) (by decide +kernel) rfl ?_
          refine g_iald (j := k) (by decide +kernel) (by omega) rfl (by omega) (by omega) (by decide) ?_
          refine g_goto (off := 37) (tgt := 97) (by decide +kernel) (by decide) ?_
          refine g_retI (by decide +kernel) rfl (Or.inl rfl) ⟨by decide, by decide⟩ ?_
          refine zRM.ok f0 (by rw [if_neg (by omega), if_neg (by omega)]) s0 ?_
          rw [Int.toNat_natCast]
          first
            | (have hz : w = 0 := h51
               rw [hz]; show τ 216 k = σ 216 k; rw [f0.1 216 (by omega)])
            | (have hz : w = 1 := h65
               rw [hz]; show τ 217 k = σ 217 k; rw [f0.1 217 (by omega)])
            | (have hz : w = 2 := h79
               rw [hz]; show τ 218 k = σ 218 k; rw [f0.1 218 (by omega)])
            | (have hz : w = 3 := by omega
               rw [hz]; show τ 219 k = σ 219 k; rw [f0.1 219 (by omega)])
      · refine g_aload_n (i := 0) (by decide +kernel) rfl ?_
        refine g_bipush (a := 8) (by decide +kernel) (by decide) ?_
        refine g_cVI (st := _) (c_Md_refuse hn) k_Md_refuse l_Md_295 (by decide +kernel) (by omega) rfl rfl rfl rfl (Nat.le_of_ble_eq_true rfl) (by decide) ⟨by decide, by decide⟩ ?_
        rintro a9 σ9 ⟨ea9, hσ9⟩
        obtain rfl := ea9.symm
        subst hσ9
        refine g_retI (by decide +kernel) rfl (Or.inl rfl) ⟨by decide, by decide⟩ ?_
        exact zRM.ref f0 (by rw [if_neg (by omega), if_pos (by omega)]) (by decide)
    · have h26 := zb0.mp h26
      refine g_aload_n (i := 0) (by decide +kernel) rfl ?_
      refine g_iconst (a := 1) (by decide +kernel) ?_
      refine g_cVI (st := _) (c_Md_refuse hn) k_Md_refuse l_Md_295 (by decide +kernel) (by omega) rfl rfl rfl rfl (Nat.le_of_ble_eq_true rfl) (by decide) ⟨by decide, by decide⟩ ?_
      rintro a9 σ9 ⟨ea9, hσ9⟩
      obtain rfl := ea9.symm
      subst hσ9
      refine g_retI (by decide +kernel) rfl (Or.inl rfl) ⟨by decide, by decide⟩ ?_
      exact zRM.ref f0 (if_pos (by omega)) (by decide)
