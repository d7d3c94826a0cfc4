/-! PIECES of the reference -/
section PI
variable {p x : Nat → Int} {T i u : Nat}
/-- behind T, at i, a piece has begun, and goes on to u -/
def zPi2 (p x : Nat → Int) (T i u : Nat) : Prop := (zMa p 1 x (u + 1)).1 = (zMa p 1 x T).1 + 1 ∧ (zMa p 1 x (u + 1)).2 2 = i ∧ (zMa p 1 x (u + 1)).2 3 = u ∧ (zMa p 1 x (u + 1)).2 5 = p i ∧ ((u = i ∧ (zMa p 1 x (u + 1)).2 4 = 0) ∨ (i < u ∧ (zMa p 1 x (u + 1)).2 4 = p (i + 1) - p i)) ∧ (∀ s, i ≤ s → s ≤ u → p s ≠ -1) ∧ T ≤ i ∧ i ≤ u
def zSt2 (p x : Nat → Int) (T : Nat) : Prop := T = 2000 ∨ zgo p 1 T (zMa p 1 x T).2 = false
theorem zMa_rest (ev : Int) (hT : T ≤ i) (h : ∀ s, T ≤ s → s < i → p s = -1) : zMa p ev x i = zMa p ev x T := by
  obtain ⟨d, rfl⟩ : ∃ d, i = T + d := ⟨i - T, by omega⟩
  clear hT
  induction d with
  | zero => rfl
  | succ d ih =>
    rw [show T + (d + 1) = T + d + 1 by omega, zMa_s]
    have z := h (T + d) (by omega) (by omega)
    unfold zMs
    have g : ¬ zgo p ev (T + d) (zMa p ev x (T + d)).2 = true := fun y => (of_decide_eq_true y).1 z
    rw [if_neg g, if_neg (fun y => y z)]
    exact ih (fun s h1 h2 => h s h1 (by omega))
theorem zPi2_new (hs : zSt2 p x T) (hT : T ≤ i) (hi : i < 2000) (h : ∀ s, T ≤ s → s < i → p s = -1) (hp : p i ≠ -1) : zPi2 p x T i i := by
  have e := zMa_rest (x := x) 1 hT h
  have g : ¬ zgo p 1 i (zMa p 1 x i).2 = true := by
    by_cases z : T = i
    · subst z
      rcases hs with hs | hs
      · omega
      · rw [hs]; decide
    · intro y
      refine (of_decide_eq_true y).2.1 ?_
      unfold zah
      rw [if_neg (by omega)]
      exact h (i - 1) (by omega) (by omega)
  have st : zMa p 1 x (i + 1) = ((zMa p 1 x T).1 + 1, zu (zu (zu (zu (zMa p 1 x i).2 2 i) 3 i) 4 0) 5 (p i)) := by
    rw [zMa_s]
    unfold zMs
    rw [if_neg g, if_pos hp, e]
  unfold zPi2
  rw [st]
  refine ⟨rfl, ?_, ?_, ?_, Or.inl ⟨rfl, ?_⟩, fun s h1 h2 => by rw [show s = i by omega]; exact hp, hT, Nat.le_refl _⟩
  · dsimp only; rw [zu_ne (by decide), zu_ne (by decide), zu_ne (by decide), zu_eq]
  · dsimp only; rw [zu_ne (by decide), zu_ne (by decide), zu_eq]
  · dsimp only; rw [zu_eq]
  · dsimp only; rw [zu_ne (by decide), zu_eq]
theorem zPi2_step (h : zPi2 p x T i u) (hp : p (u + 1) ≠ -1) (hd : p (u + 1) - p u = p (i + 1) - p i) : zPi2 p x T i (u + 1) := by
  obtain ⟨h1, h2, h3, h4, h5, h6, h7, h8⟩ := h
  have hu := h6 u h8 (Nat.le_refl _)
  have g : zgo p 1 (u + 1) (zMa p 1 x (u + 1)).2 = true := by
    refine decide_eq_true ⟨hp, by rw [zah_s]; exact hu, Or.inr ?_⟩
    rw [zah_s, h2, h3]
    rcases h5 with ⟨a, -⟩ | ⟨a, b⟩
    · exact Or.inl (by rw [a])
    · exact Or.inr (by rw [b, hd])
  unfold zPi2
  rw [zMa_s p 1 x (u + 1)]
  unfold zMs
  rw [if_pos g, zah_s]
  have B : ∀ j, j ≠ 4 → (if (1 : Int) ≠ 0 ∧ (zMa p 1 x (u + 1)).2 2 = (zMa p 1 x (u + 1)).2 3 then zu (zMa p 1 x (u + 1)).2 4 (p (u + 1) - p u) else (zMa p 1 x (u + 1)).2) j = (zMa p 1 x (u + 1)).2 j := fun j hj => by
    split
    · exact zu_ne hj
    · rfl
  refine ⟨h1, ?_, ?_, ?_, Or.inr ⟨by omega, ?_⟩, fun s a1 a2 => ?_, h7, by omega⟩
  · dsimp only; rw [zu_ne (by decide), B 2 (by decide)]; exact h2
  · dsimp only; rw [zu_eq]
  · dsimp only; rw [zu_ne (by decide), B 5 (by decide)]; exact h4
  · dsimp only
    rw [zu_ne (by decide)]
    rcases h5 with ⟨a, b⟩ | ⟨a, b⟩
    · have c : (1 : Int) ≠ 0 ∧ (zMa p 1 x (u + 1)).2 2 = (zMa p 1 x (u + 1)).2 3 := ⟨by decide, by rw [h2, h3, a]⟩
      rw [if_pos c, zu_eq, hd]
    · have c : ¬ ((1 : Int) ≠ 0 ∧ (zMa p 1 x (u + 1)).2 2 = (zMa p 1 x (u + 1)).2 3) := fun y => by have := y.2; rw [h2, h3] at this; omega
      rw [if_neg c, b]
  · by_cases z : s = u + 1
    · rw [z]; exact hp
    · exact h6 s a1 (by omega)
theorem zPi2_stop (h : zPi2 p x T i u) (hs : p (u + 1) = -1 ∨ (i < u ∧ p (u + 1) - p u ≠ p (i + 1) - p i)) : zSt2 p x (u + 1) := by
  obtain ⟨h1, h2, h3, h4, h5, h6, h7, h8⟩ := h
  refine Or.inr (decide_eq_false (fun y => ?_))
  rcases hs with hs | ⟨a, b⟩
  · exact y.1 hs
  · rcases y.2.2 with z | z | z
    · exact absurd z (by decide)
    · rw [h2, h3] at z; omega
    · rw [zah_s] at z
      rcases h5 with h5 | h5
      · omega
      · rw [h5.2] at z; exact b z.symm
theorem zPi2_pc {n : Int} (hn : 0 ≤ n) (h : zPi2 p x T i u) (hT : (zMa p 1 x T).1 = n) (hu : u < 2000) (hs : zSt2 p x (u + 1)) : zpc p 1 n 2 = i ∧ zpc p 1 n 3 = u ∧ zpc p 1 n 5 = p i ∧ zpc p 1 n 4 = (if i < u then p (i + 1) - p i else 0) ∧ (zMa p 1 x 2000).1 > n := by
  obtain ⟨h1, h2, h3, h4, h5, h6, h7, h8⟩ := h
  have z : zStp2 p 1 n (zMa p 1 x (u + 1)).2 := ⟨u + 1, x, by omega, Prod.ext (by rw [h1, hT]) rfl, hs⟩
  have mo := zMa_mono p 1 x (u + 1) (2000 - (u + 1))
  rw [show u + 1 + (2000 - (u + 1)) = 2000 by omega] at mo
  refine ⟨by rw [← zpc_eq hn z 2 (by decide) (by decide)]; exact h2, by rw [← zpc_eq hn z 3 (by decide) (by decide)]; exact h3, by rw [← zpc_eq hn z 5 (by decide) (by decide)]; exact h4, ?_, by omega⟩
  rw [← zpc_eq hn z 4 (by decide) (by decide)]
  rcases h5 with ⟨a, b⟩ | ⟨a, b⟩
  · rw [b, if_neg (by omega)]
  · rw [b, if_pos a]
end PI
/-- only the piece at hand has changed -/
def zGf (σ τ : zSt) : Prop := ∀ a j, ¬ (a = 189 ∧ (j = 43 ∨ j = 44)) → τ a j = σ a j
theorem zGf.rf (σ : zSt) : zGf σ σ := fun _ _ _ => rfl
theorem zGf.put {σ τ : zSt} {j : Nat} {v : Int} (h : zGf σ τ) (hj : j = 43 ∨ j = 44) : zGf σ (zs τ 189 j v) := fun a b hb => by
  rw [zs_ne (fun y => hb ⟨y.1, by rw [y.2]; exact hj⟩)]; exact h a b hb
theorem zGf.tr {σ τ υ : zSt} (h : zGf σ τ) (g : zGf τ υ) : zGf σ υ := fun a j hj => (g a j hj).trans (h a j hj)
theorem zTm.gf {σ τ S : zSt} {k T : Nat} (h : zTm σ S k T) (hf : zGf σ τ) : zTm τ S k T := fun t ht => by
  rw [hf 214 t (by omega), hf 215 t (by omega)]; exact h t ht
theorem zMF.gf {σ τ υ : zSt} (h : zMF σ τ) (g : zGf τ υ) : zMF σ υ := h.tr ⟨fun a ha => funext (fun j => g a j (by omega)), fun j hj => g 189 j (by omega)⟩
def zGP (σ σ' : zSt) (p x : Nat → Int) (T : Nat) (a : Int) : Prop := zGf σ σ' ∧ ((a = 0 ∧ (zMa p 1 x 2000).1 = (zMa p 1 x T).1) ∨ (a = 1 ∧ ∃ i u : Nat, σ' 189 43 = i ∧ σ' 189 44 = u ∧ zPi2 p x T i u ∧ u < 2000 ∧ zSt2 p x (u + 1)))
theorem w2_Md_goesPiece {G : zG} {X : zX} {n : Nat} {σ : zSt} {S : zSt} {k T : Nat} {x : Nat → Int} (hn : 220 ≤ n) (hM : zMz S) (hq : zTm σ S k 2000) (kN : k < zN S) (hs : zSt2 (zplay S k) x T) (hT : T ≤ 2000) {i : Nat} {x2 : Int} (hi : i + 1 < 2000) (ht : x2 = zplay S k (i + 1) - zplay S k i)  : ∀ (m : Nat) (u : Nat) (τ : zSt), zGf σ τ → τ 189 43 = (i : Int) → τ 189 44 = (u : Int) → zPi2 (zplay S k) x T i u → u < 2000 → 2000 < u + m + 1 → Go G X m_Md_goesPiece (0, 0, 0, 0, 0) n SH τ 108 [(0, vr G 189), (1, vi (T : Int)), (2, vl x2)] [] (zI n SH (fun a σ' => zGP σ σ' (zplay S k) x T a)) := by
  intro m
  induction m with
  | zero => intro u τ hf e3 e4 hp hu hm; exact absurd hm (by omega)
  | succ m ih =>
    intro u τ hf e3 e4 hp hu hm
    have hq' := hq.gf hf
    have qi := hq'.p hM kN (show i < 2000 by omega)
    have qj := hq'.p hM kN hi
    have qu := hq'.p hM kN hu
    have pi := hp.2.2.2.2.2.1 i (Nat.le_refl _) hp.2.2.2.2.2.2.2
    have pu := hp.2.2.2.2.2.1 u hp.2.2.2.2.2.2.2 (Nat.le_refl _)
    have iu := hp.2.2.2.2.2.2.2
    have pj := hp.2.2.2.2.2.1 (i + 1)
    refine g_aload_n (i := 0) (by decide +kernel) rfl ?_
    refine g_geti f_Md_430 (by decide +kernel) (by omega) rfl rfl ?_
    refine g_sipush (a := 1999) (by decide +kernel) (by decide) ?_
    refine g_icmp_ge (off := 56) (tgt := 171) (by decide +kernel) (by decide) ⟨by omega, by omega⟩ ⟨by omega, by omega⟩ (fun h115 => ?_) (fun h115 => ?_)
    · refine g_iconst (a := 1) (by decide +kernel) ?_
      refine g_retI (by decide +kernel) rfl (Or.inr ⟨rfl, by omega⟩) ⟨by decide, by decide⟩ ?_
      refine ⟨hf, Or.inr ⟨rfl, i, u, e3, e4, hp, hu, ?_⟩⟩
      first
        | exact Or.inl (by omega)
        | (have hz : τ 214 (u + 1) = 0 := h129
           exact zPi2_stop hp (Or.inl (by omega)))
        | (have hz : τ 215 (u + 1) - τ 215 u ≠ x2 := h155
           refine zPi2_stop hp (Or.inr ⟨?_, by omega⟩)
           by_cases z : u = i
           · exfalso; subst z; omega
           · omega)
    · have q1 := hq'.p hM kN (show u + 1 < 2000 by omega)
      refine g_aload_n (i := 0) (by decide +kernel) rfl ?_
      refine g_getr f_Md_124 (by decide +kernel) (by omega) rfl rfl ?_
      refine g_aload_n (i := 0) (by decide +kernel) rfl ?_
      refine g_geti f_Md_430 (by decide +kernel) (by omega) rfl rfl ?_
      refine g_iconst (a := 1) (by decide +kernel) ?_
      refine g_iadd (by decide +kernel) ?_
      refine g_zald (j := (u + 1)) (by decide +kernel) (by omega) rfl (by push_cast; omega) (by omega) (by decide) ?_
      refine g_if_eq (off := 42) (tgt := 171) (by decide +kernel) (by decide) ⟨by omega, by omega⟩ (fun h129 => ?_) (fun h129 => ?_)
      · refine g_iconst (a := 1) (by decide +kernel) ?_
        refine g_retI (by decide +kernel) rfl (Or.inr ⟨rfl, by omega⟩) ⟨by decide, by decide⟩ ?_
        refine ⟨hf, Or.inr ⟨rfl, i, u, e3, e4, hp, hu, ?_⟩⟩
        first
          | exact Or.inl (by omega)
          | (have hz : τ 214 (u + 1) = 0 := h129
             exact zPi2_stop hp (Or.inl (by omega)))
          | (have hz : τ 215 (u + 1) - τ 215 u ≠ x2 := h155
             refine zPi2_stop hp (Or.inr ⟨?_, by omega⟩)
             by_cases z : u = i
             · exfalso; subst z; omega
             · omega)
      · refine g_aload_n (i := 0) (by decide +kernel) rfl ?_
        refine g_getr f_Md_127 (by decide +kernel) (by omega) rfl rfl ?_
        refine g_aload_n (i := 0) (by decide +kernel) rfl ?_
        refine g_geti f_Md_430 (by decide +kernel) (by omega) rfl rfl ?_
        refine g_iconst (a := 1) (by decide +kernel) ?_
        refine g_iadd (by decide +kernel) ?_
        refine g_lald (j := (u + 1)) (by decide +kernel) (by omega) rfl (by push_cast; omega) (by omega) (by decide) ?_
        refine g_aload_n (i := 0) (by decide +kernel) rfl ?_
        refine g_getr f_Md_127 (by decide +kernel) (by omega) rfl rfl ?_
        refine g_aload_n (i := 0) (by decide +kernel) rfl ?_
        refine g_geti f_Md_430 (by decide +kernel) (by omega) rfl rfl ?_
        refine g_lald (j := u) (by decide +kernel) (by omega) rfl (by omega) (by omega) (by decide) ?_
        refine g_lsub (by decide +kernel) ?_
        refine g_lload_n (i := 2) (by decide +kernel) rfl ?_
        refine g_lcmp (by decide +kernel) ⟨by omega, by omega⟩ ⟨by omega, by omega⟩ ?_
        refine g_if_ne (off := 16) (tgt := 171) (by decide +kernel) (by decide) zcmp_r (fun h155 => ?_) (fun h155 => ?_)
        · have h155 := zcmp_ne.mp h155
          refine g_iconst (a := 1) (by decide +kernel) ?_
          refine g_retI (by decide +kernel) rfl (Or.inr ⟨rfl, by omega⟩) ⟨by decide, by decide⟩ ?_
          refine ⟨hf, Or.inr ⟨rfl, i, u, e3, e4, hp, hu, ?_⟩⟩
          first
            | exact Or.inl (by omega)
            | (have hz : τ 214 (u + 1) = 0 := h129
               exact zPi2_stop hp (Or.inl (by omega)))
            | (have hz : τ 215 (u + 1) - τ 215 u ≠ x2 := h155
               refine zPi2_stop hp (Or.inr ⟨?_, by omega⟩)
               by_cases z : u = i
               · exfalso; subst z; omega
               · omega)
        · have h155 := zcmp_eq.mp h155
          refine g_aload_n (i := 0) (by decide +kernel) rfl ?_
          refine g_dup (by decide +kernel) rfl ?_
          refine g_geti f_Md_430 (by decide +kernel) (by omega) rfl rfl ?_
          refine g_iconst (a := 1) (by decide +kernel) ?_
          refine g_iadd (by decide +kernel) ?_
          refine g_puti f_Md_430 (by decide +kernel) (by omega) rfl rfl ?_
          refine g_goto (off := -60) (tgt := 108) (by decide +kernel) (by decide) ?_
          have hz : τ 215 (u + 1) - τ 215 u = x2 := h155
          exact ih (u + 1) _ (hf.put (Or.inr rfl)) (by rw [zs_ne (by omega)]; exact e3) (by rw [zs_eq, e4]; push_cast; rfl) (zPi2_step hp (by omega) (by omega)) (by omega) (by omega)
theorem w_Md_goesPiece {G : zG} {X : zX} {n : Nat} {σ : zSt} {S : zSt} {k T : Nat} {x : Nat → Int} (hn : 220 ≤ n) (hM : zMz S) (hq : zTm σ S k 2000) (kN : k < zN S) (hs : zSt2 (zplay S k) x T) (hT : T ≤ 2000)  : ∀ (m : Nat) (i : Nat) (τ : zSt), zGf σ τ → τ 189 43 = (i : Int) → T ≤ i → i ≤ 2000 → (∀ s, T ≤ s → s < i → zplay S k s = -1) → 2000 < i + m → Go G X m_Md_goesPiece (0, 0, 0, 0, 0) n SH τ 5 [(0, vr G 189), (1, vi (T : Int))] [] (zI n SH (fun a σ' => zGP σ σ' (zplay S k) x T a)) := by
  intro m
  induction m with
  | zero => intro i τ hf e3 Ti hi hb hm; exact absurd hm (by omega)
  | succ m ih =>
    intro i τ hf e3 Ti hi hb hm
    have hq' := hq.gf hf
    have J40 : (i = 2000 ∨ (i < 2000 ∧ zplay S k i ≠ -1)) → Go G X m_Md_goesPiece (0, 0, 0, 0, 0) n SH τ 40 [(0, vr G 189), (1, vi (T : Int))] [] (zI n SH (fun a σ' => zGP σ σ' (zplay S k) x T a)) := by
      intro he
      refine g_aload_n (i := 0) (by decide +kernel) rfl ?_
      refine g_geti f_Md_433 (by decide +kernel) (by omega) rfl rfl ?_
      refine g_sipush (a := 1999) (by decide +kernel) (by decide) ?_
      refine g_icmp_le (off := 5) (tgt := 52) (by decide +kernel) (by decide) ⟨by omega, by omega⟩ ⟨by omega, by omega⟩ (fun h47 => ?_) (fun h47 => ?_)
      · refine g_aload_n (i := 0) (by decide +kernel) rfl ?_
        refine g_aload_n (i := 0) (by decide +kernel) rfl ?_
        refine g_geti f_Md_433 (by decide +kernel) (by omega) rfl rfl ?_
        refine g_puti f_Md_430 (by decide +kernel) (by omega) rfl rfl ?_
        obtain ⟨υ, eυ⟩ : ∃ υ, υ = zs τ 189 44 (τ 189 43) := ⟨_, rfl⟩
        rw [← eυ]
        have gf : zGf σ υ := by rw [eυ]; exact hf.put (Or.inr rfl)
        have g3 : υ 189 43 = (i : Int) := by rw [eυ, zs_ne (by omega)]; exact e3
        have g4 : υ 189 44 = (i : Int) := by rw [eυ, zs_eq]; exact e3
        have hq2 := hq.gf gf
        have pn := zPi2_new hs Ti (by omega) hb (by omega)
        refine g_aload_n (i := 0) (by decide +kernel) rfl ?_
        refine g_geti f_Md_433 (by decide +kernel) (by omega) rfl rfl ?_
        refine g_sipush (a := 1999) (by decide +kernel) (by decide) ?_
        refine g_icmp_eq (off := 17) (tgt := 84) (by decide +kernel) (by decide) ⟨by omega, by omega⟩ ⟨by omega, by omega⟩ (fun h67 => ?_) (fun h67 => ?_)
        · refine g_iconst (a := 1) (by decide +kernel) ?_
          refine g_retI (by decide +kernel) rfl (Or.inr ⟨rfl, by omega⟩) ⟨by decide, by decide⟩ ?_
          refine ⟨gf, Or.inr ⟨rfl, i, i, g3, g4, pn, by omega, ?_⟩⟩
          first
            | exact Or.inl (by omega)
            | (have hz : υ 214 (i + 1) = 0 := h81
               exact zPi2_stop pn (Or.inl (by omega)))
        · have q1 := hq2.p hM kN (show i + 1 < 2000 by omega)
          have q0 := hq2.p hM kN (show i < 2000 by omega)
          refine g_aload_n (i := 0) (by decide +kernel) rfl ?_
          refine g_getr f_Md_124 (by decide +kernel) (by omega) rfl rfl ?_
          refine g_aload_n (i := 0) (by decide +kernel) rfl ?_
          refine g_geti f_Md_433 (by decide +kernel) (by omega) rfl rfl ?_
          refine g_iconst (a := 1) (by decide +kernel) ?_
          refine g_iadd (by decide +kernel) ?_
          refine g_zald (j := (i + 1)) (by decide +kernel) (by omega) rfl (by push_cast; omega) (by omega) (by decide) ?_
          refine g_if_ne (off := 5) (tgt := 86) (by decide +kernel) (by decide) ⟨by omega, by omega⟩ (fun h81 => ?_) (fun h81 => ?_)
          · refine g_aload_n (i := 0) (by decide +kernel) rfl ?_
            refine g_getr f_Md_127 (by decide +kernel) (by omega) rfl rfl ?_
            refine g_aload_n (i := 0) (by decide +kernel) rfl ?_
            refine g_geti f_Md_433 (by decide +kernel) (by omega) rfl rfl ?_
            refine g_iconst (a := 1) (by decide +kernel) ?_
            refine g_iadd (by decide +kernel) ?_
            refine g_lald (j := (i + 1)) (by decide +kernel) (by omega) rfl (by push_cast; omega) (by omega) (by decide) ?_
            refine g_aload_n (i := 0) (by decide +kernel) rfl ?_
            refine g_getr f_Md_127 (by decide +kernel) (by omega) rfl rfl ?_
            refine g_aload_n (i := 0) (by decide +kernel) rfl ?_
            refine g_geti f_Md_433 (by decide +kernel) (by omega) rfl rfl ?_
            refine g_lald (j := i) (by decide +kernel) (by omega) rfl (by omega) (by omega) (by decide) ?_
            refine g_lsub (by decide +kernel) ?_
            refine g_lstore_n (i := 2) (L' := [(0, _), (1, _), (2, _)]) (by decide +kernel) rfl rfl ?_
            exact w2_Md_goesPiece hn hM hq kN hs hT (show i + 1 < 2000 by omega) (by omega) 2001 i υ gf g3 g4 pn (by omega) (by omega)
          · refine g_iconst (a := 1) (by decide +kernel) ?_
            refine g_retI (by decide +kernel) rfl (Or.inr ⟨rfl, by omega⟩) ⟨by decide, by decide⟩ ?_
            refine ⟨gf, Or.inr ⟨rfl, i, i, g3, g4, pn, by omega, ?_⟩⟩
            first
              | exact Or.inl (by omega)
              | (have hz : υ 214 (i + 1) = 0 := h81
                 exact zPi2_stop pn (Or.inl (by omega)))
      · refine g_iconst (a := 0) (by decide +kernel) ?_
        refine g_retI (by decide +kernel) rfl (Or.inr ⟨rfl, by omega⟩) ⟨by decide, by decide⟩ ?_
        refine ⟨hf, Or.inl ⟨rfl, ?_⟩⟩
        have z : i = 2000 := by omega
        subst z
        rw [zMa_rest 1 Ti hb]
    refine g_aload_n (i := 0) (by decide +kernel) rfl ?_
    refine g_geti f_Md_433 (by decide +kernel) (by omega) rfl rfl ?_
    refine g_sipush (a := 1999) (by decide +kernel) (by decide) ?_
    refine g_icmp_gt (off := 28) (tgt := 40) (by decide +kernel) (by decide) ⟨by omega, by omega⟩ ⟨by omega, by omega⟩ (fun h12 => ?_) (fun h12 => ?_)
    · exact J40 (by omega)
    · have qi := hq'.p hM kN (show i < 2000 by omega)
      refine g_aload_n (i := 0) (by decide +kernel) rfl ?_
      refine g_getr f_Md_124 (by decide +kernel) (by omega) rfl rfl ?_
      refine g_aload_n (i := 0) (by decide +kernel) rfl ?_
      refine g_geti f_Md_433 (by decide +kernel) (by omega) rfl rfl ?_
      refine g_zald (j := i) (by decide +kernel) (by omega) rfl (by omega) (by omega) (by decide) ?_
      refine g_if_ne (off := 16) (tgt := 40) (by decide +kernel) (by decide) ⟨by omega, by omega⟩ (fun h24 => ?_) (fun h24 => ?_)
      · exact J40 (by omega)
      · refine g_aload_n (i := 0) (by decide +kernel) rfl ?_
        refine g_dup (by decide +kernel) rfl ?_
        refine g_geti f_Md_433 (by decide +kernel) (by omega) rfl rfl ?_
        refine g_iconst (a := 1) (by decide +kernel) ?_
        refine g_iadd (by decide +kernel) ?_
        refine g_puti f_Md_433 (by decide +kernel) (by omega) rfl rfl ?_
        refine g_goto (off := -32) (tgt := 5) (by decide +kernel) (by decide) ?_
        exact ih (i + 1) _ (hf.put (Or.inl rfl)) (by rw [zs_eq, e3]; push_cast; rfl) (by omega) (by omega) (fun s h1 h2 => by
          by_cases z : s = i
          · rw [z]; omega
          · exact hb s h1 (by omega)) (by omega)
theorem c_Md_goesPiece {G : zG} {n : Nat} {σ : zSt} {S : zSt} {k T : Nat} {x : Nat → Int} (hn : 220 ≤ n) (hM : zMz S) (hq : zTm σ S k 2000) (kN : k < zN S) (hs : zSt2 (zplay S k) x T) (hT : T ≤ 2000)  : Gm G y_Md_goesPiece m_Md_goesPiece 0 0 0 [vr G 189, vi (T : Int)] n SH σ (zI n SH (fun a σ' => zGP σ σ' (zplay S k) x T a)) := by
  refine g_enter (L := [(0, _), (1, _)]) (by decide) rfl rfl rfl (Nat.le_of_ble_eq_true rfl) (fun X => ?_)
  refine g_aload_n (i := 0) (by decide +kernel) rfl ?_
  refine g_iload_n (i := 1) (by decide +kernel) rfl ?_
  refine g_puti f_Md_433 (by decide +kernel) (by omega) rfl rfl ?_
  exact w_Md_goesPiece hn hM hq kN hs hT 2001 T _ ((zGf.rf σ).put (Or.inl rfl)) (zs_eq _ _ _ _) (Nat.le_refl _) hT (fun s h1 h2 => by omega) (by omega)
theorem w_Md_pieces {G : zG} {X : zX} {n : Nat} {σ : zSt} {S : zSt} {k : Nat} {x : Nat → Int} (hn : 220 ≤ n) (hM : zMz S) (kN : k < zN S)  : ∀ (m : Nat) (T : Nat) (x2 x3 : Int) (τ : zSt), x3 = (T : Int) → x2 = (zMa (zplay S k) 1 x T).1 → zMF σ τ → τ 189 2 = 0 → zTm τ S k 2000 → zSt2 (zplay S k) x T → T ≤ 2000 → 2000 < T + m → Go G X m_Md_pieces (19, 0, 0, 0, 0) n SH τ 33 [(0, vr G 189), (1, vi (k : Int)), (2, vi x2), (3, vi x3)] [] (zI n SH (fun a σ' => zRM σ σ' a 0 (zMa (zplay S k) 1 x 2000).1)) := by
  intro m
  induction m with
  | zero => intro T x2 x3 τ e3 e2 hf s1 hq' hs hT hm; exact absurd hm (by omega)
  | succ m ih =>
    intro T x2 x3 τ e3 e2 hf s1 hq' hs hT hm
    subst e3
    refine g_aload_n (i := 0) (by decide +kernel) rfl ?_
    refine g_iload_n (i := 3) (by decide +kernel) rfl ?_
    refine g_cVI (st := _) (c_Md_goesPiece (T := T) (x := x) hn hM hq' kN hs hT) k_Md_goesPiece l_Md_439 (by decide +kernel) (by omega) rfl rfl rfl rfl (Nat.le_of_ble_eq_true rfl) (by decide) ⟨by decide, by decide⟩ ?_
    rintro a9 σ9 ⟨gf, hG⟩
    have a01 : a9 = 0 ∨ a9 = 1 := by rcases hG with hG | hG; exact Or.inl hG.1; exact Or.inr hG.1
    refine g_if_eq (off := 16) (tgt := 54) (by decide +kernel) (by decide) ⟨by omega, by omega⟩ (fun h38 => ?_) (fun h38 => ?_)
    · refine g_iload_n (i := 2) (by decide +kernel) rfl ?_
      refine g_retI (by decide +kernel) rfl (Or.inl rfl) ⟨by decide, by decide⟩ ?_
      rcases hG with hG | hG
      · exact zRM.ok (hf.gf gf) rfl (by rw [gf 189 2 (by omega)]; exact s1) (by rw [e2, hG.2])
      · exfalso; omega
    · refine g_iinc (i := 2) (b := 1) (L' := [(0, _), (1, _), (2, _), (3, _)]) (by decide +kernel) rfl rfl rfl ?_
      refine g_aload_n (i := 0) (by decide +kernel) rfl ?_
      refine g_geti f_Md_430 (by decide +kernel) (by omega) rfl rfl ?_
      refine g_iconst (a := 1) (by decide +kernel) ?_
      refine g_iadd (by decide +kernel) ?_
      refine g_istore_n (i := 3) (L' := [(0, _), (1, _), (2, _), (3, _)]) (by decide +kernel) rfl rfl ?_
      refine g_goto (off := -18) (tgt := 33) (by decide +kernel) (by decide) ?_
      rcases hG with hG | ⟨-, i, u, g3, g4, hp, hu, hs2⟩
      · exfalso; omega
      · have pp := hp
        exact ih (u + 1) _ _ σ9 (by rw [g4]; push_cast; rfl) (by rw [hp.1, e2]) (hf.gf gf) (by rw [gf 189 2 (by omega)]; exact s1) (hq'.gf gf) hs2 (by omega) (by have := hp.2.2.2.2.2.2; omega)
theorem c_Md_pieces {G : zG} {n : Nat} {σ : zSt} {S : zSt} (hn : 220 ≤ n) (hM : zMz S) (hS : zMc σ S) {c : Int} {x : Nat → Int} (z1 : zr c) : Gm G y_Md_pieces m_Md_pieces 19 0 0 [vr G 189, vi c] n SH σ (zI n SH (fun a σ' => zRM σ σ' a (if 0 ≤ c ∧ c < S 0 0 then 0 else 2) (zMa (zplay S c.toNat) 1 x 2000).1)) := by
  refine g_enter (L := [(0, _), (1, _)]) (by decide) rfl rfl rfl (Nat.le_of_ble_eq_true rfl) (fun X => ?_)
  have e0 := hS.n
  have e8 := hS.p
  have hN := hS.N
  have hz : zN S = (S 0 0).toNat := rfl
  obtain ⟨z1a, z1b⟩ := id z1
  refine g_aload_n (i := 0) (by decide +kernel) rfl ?_
  refine g_iconst (a := 0) (by decide +kernel) ?_
  refine g_puti f_Md_142 (by decide +kernel) (by omega) rfl rfl ?_
  refine g_aload_n (i := 0) (by decide +kernel) rfl ?_
  refine g_iconst (a := 0) (by decide +kernel) ?_
  refine g_puti f_Md_145 (by decide +kernel) (by omega) rfl rfl ?_
  obtain ⟨τ, eτ⟩ : ∃ τ, τ = zs (zs σ 189 3 0) 189 2 0 := ⟨_, rfl⟩
  rw [← eτ]
  have f0 : zMF σ τ := by rw [eτ]; exact ((zMF.rf σ).put (by decide)).put (by decide)
  have s0 : τ 189 2 = 0 := by rw [eτ, zs_eq]
  have hT : zMc τ S := hS.moved (f0.1 190 (by decide))
  have et := hT.n
  have ep := hT.p
  refine g_aload_n (i := 0) (by decide +kernel) rfl ?_
  refine g_iload_n (i := 1) (by decide +kernel) rfl ?_
  refine g_cVI (st := _) (c_Md_isClip (k := c) hn (by assumption) (by rw [hT.n]; omega)) k_Md_isClip l_Md_313 (by decide +kernel) (by omega) rfl rfl rfl rfl (Nat.le_of_ble_eq_true rfl) (by decide) ⟨by decide, by decide⟩ ?_
  rintro a9 σ9 ⟨ea9, hσ9⟩
  obtain rfl := hσ9.symm
  rw [hT.n] at ea9
  subst ea9
  refine g_if_ne (off := 9) (tgt := 24) (by decide +kernel) (by decide) zbr (fun h15 => ?_) (fun h15 => ?_)
  · have h15 := zb1.mp h15
    obtain ⟨k, rfl⟩ := Int.eq_ofNat_of_zero_le h15.1
    have kN : k < zN S := by omega
    refine g_aload_n (i := 0) (by decide +kernel) rfl ?_
    refine g_iload_n (i := 1) (by decide +kernel) rfl ?_
    refine g_cVV (st := _) (c_Md_laysTimes (k := k) hn hM hT kN) k_Md_laysTimes l_Md_436 (by decide +kernel) (by omega) rfl rfl rfl rfl (Nat.le_of_ble_eq_true rfl) (by decide) ⟨by decide, by decide⟩ ?_
    rintro υ ⟨hf, hP, hq⟩
    have f1 := f0.of (fun a ha => hf a (by omega))
    have s1 : υ 189 2 = 0 := by rw [hf 189 (by omega)]; exact s0
    refine g_iconst (a := 0) (by decide +kernel) ?_
    refine g_istore_n (i := 2) (L' := [(0, _), (1, _), (2, _)]) (by decide +kernel) rfl rfl ?_
    refine g_iconst (a := 0) (by decide +kernel) ?_
    refine g_istore_n (i := 3) (L' := [(0, _), (1, _), (2, _), (3, _)]) (by decide +kernel) rfl rfl ?_
    rw [if_pos (by omega), Int.toNat_natCast]
    exact w_Md_pieces hn hM kN 2001 0 _ _ υ rfl rfl f1 s1 hq (Or.inr (decide_eq_false (fun y => y.2.1 rfl))) (by omega) (by omega)
  · have h15 := zb0.mp h15
    refine g_aload_n (i := 0) (by decide +kernel) rfl ?_
    refine g_iconst (a := 2) (by decide +kernel) ?_
    refine g_cVI (st := _) (c_Md_refuse hn) k_Md_refuse l_Md_295 (by decide +kernel) (by omega) rfl rfl rfl rfl (Nat.le_of_ble_eq_true rfl) (by decide) ⟨by decide, by decide⟩ ?_
    rintro a9 σ9 ⟨ea9, hσ9⟩
    obtain rfl := ea9.symm
    subst hσ9
    refine g_retI (by decide +kernel) rfl (Or.inl rfl) ⟨by decide, by decide⟩ ?_
    exact zRM.ref f0 (if_neg (by omega)) (by decide)
