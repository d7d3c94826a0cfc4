/-! THE ROW (94), sorted -/
def zSame (f g : Nat → Int) (n : Nat) : Prop := ∀ v, (∃ i, i < n ∧ g i = v) ↔ (∃ i, i < n ∧ f i = v)
theorem zSame.rf (f : Nat → Int) (n : Nat) : zSame f f n := fun _ => Iff.rfl
theorem zSame_swap {f h : Nat → Int} {n o q : Nat} {v : Int} (ho : o < n) (hq : q < n) (ne : o ≠ q) (hs : zSame f (zu h o v) n) : zSame f (zu (zu h o (h q)) q v) n := fun w => by
  rw [← hs w]
  constructor
  · rintro ⟨i, hi, e⟩
    by_cases e1 : i = q
    · subst e1
      rw [zu_eq] at e
      exact ⟨o, ho, by rw [zu_eq]; exact e⟩
    · rw [zu_ne e1] at e
      by_cases e2 : i = o
      · subst e2
        rw [zu_eq] at e
        exact ⟨q, hq, by rw [zu_ne (fun z => ne z.symm)]; exact e⟩
      · rw [zu_ne e2] at e
        exact ⟨i, hi, by rw [zu_ne e2]; exact e⟩
  · rintro ⟨i, hi, e⟩
    by_cases e2 : i = o
    · subst e2
      rw [zu_eq] at e
      exact ⟨q, hq, by rw [zu_eq]; exact e⟩
    · rw [zu_ne e2] at e
      by_cases e1 : i = q
      · subst e1
        exact ⟨o, ho, by rw [zu_ne ne, zu_eq]; exact e⟩
      · exact ⟨i, hi, by rw [zu_ne e1, zu_ne e2]; exact e⟩
theorem zu_self (f : Nat → Int) (i : Nat) : zu f i (f i) = f := by
  funext j
  unfold zu
  split
  · next e => rw [e]
  · rfl
/-- sorted in steps of g, below i -/
def zGs (f : Nat → Int) (g i : Nat) : Prop := ∀ j, g ≤ j → j < i → f (j - g) ≤ f j
/-- the same, but for the place o, where v is to come -/
def zGo2 (f : Nat → Int) (g i o : Nat) (v : Int) : Prop := (∀ j, g ≤ j → j ≤ i → j ≠ o → j ≠ o + g → f (j - g) ≤ f j) ∧ (o + g ≤ i → v ≤ f (o + g)) ∧ (o + g ≤ i → g ≤ o → f (o - g) ≤ f (o + g)) ∧ (o = i ∨ o + g ≤ i)
theorem zGo2_0 {f : Nat → Int} {g i : Nat} (hg : 1 ≤ g) (h : zGs f g i) : zGo2 f g i i (f i) := ⟨fun j h1 h2 h3 _ => h j h1 (by omega), fun q => by omega, fun q => by omega, Or.inl rfl⟩
theorem zGo2_s {f : Nat → Int} {g i o : Nat} {v : Int} (hg : 1 ≤ g) (ho : g ≤ o) (h : zGo2 f g i o v) (hv : v < f (o - g)) : zGo2 (zu f o (f (o - g))) g i (o - g) v := by
  obtain ⟨h1, h2, h3, h4⟩ := h
  have e : o - g + g = o := by omega
  refine ⟨fun j j1 j2 j3 j4 => ?_, fun q => ?_, fun q q2 => ?_, Or.inr (by omega)⟩
  · rw [e] at j4
    rw [zu_ne j4]
    by_cases z : j - g = o
    · rw [z, zu_eq]
      have := h3 (by omega) ho
      rw [show o + g = j by omega] at this
      exact this
    · rw [zu_ne z]; exact h1 j j1 j2 j4 (by omega)
  · rw [e, zu_eq]; omega
  · rw [e, zu_eq, zu_ne (by omega)]
    exact h1 (o - g) (by omega) (by omega) (by omega) (by omega)
theorem zGo2_e {f : Nat → Int} {g i o : Nat} {v : Int} (hg : 1 ≤ g) (h : zGo2 f g i o v) (hv : o < g ∨ f (o - g) ≤ v) : zGs (zu f o v) g (i + 1) := by
  obtain ⟨h1, h2, h3, h4⟩ := h
  intro j j1 j2
  by_cases z : j = o
  · subst z
    rw [zu_eq, zu_ne (by omega)]; omega
  · rw [zu_ne z]
    by_cases y : j = o + g
    · subst y
      rw [show o + g - g = o by omega, zu_eq]; exact h2 (by omega)
    · rw [zu_ne (by omega)]; exact h1 j j1 (by omega) z y
/-- what stays while the row is sorted -/
def zSo (σ τ : zSt) (n : Nat) : Prop := (∀ a, a ≠ 94 → τ a = σ a) ∧ zSame (σ 94) (τ 94) n ∧ ∀ j, j < n → zr (τ 94 j)
theorem w3_Sr_sortRow {G : zG} {X : zX} {n : Nat} {σ : zSt} {N : Nat} {post : zPost} (hn : 189 ≤ n) (hN : N ≤ 2000) {x4 : Int} {g i : Nat} {v : Int} (hg : 1 ≤ g) (hg2 : g ≤ 2000) (hi : i < N) (hv : zr v) (kk : ∀ τ, zSo σ τ N → zGs (τ 94) g (i + 1) → Go G X m_Sr_sortRow (0, 0, 0, 0, 0) n SH τ 26 [(0, vr G 93), (1, vi (N : Int)), (2, .ref (G.2.2.2.2.2 3)), (3, vi 7), (4, vi x4), (5, vi (g : Int)), (6, vi ((i : Int) + 1))] [] post) : ∀ (m : Nat) (o : Nat) (x8 : Int) (τ : zSt), x8 = (o : Int) → (∀ a, a ≠ 94 → τ a = σ a) → zSame (σ 94) (zu (τ 94) o v) N → (∀ j, j < N → zr (τ 94 j)) → zGo2 (τ 94) g i o v → o ≤ i → o < m → Go G X m_Sr_sortRow (0, 0, 0, 0, 0) n SH τ 45 [(0, vr G 93), (1, vi (N : Int)), (2, .ref (G.2.2.2.2.2 3)), (3, vi 7), (4, vi x4), (5, vi (g : Int)), (6, vi (i : Int)), (7, vi v), (8, vi x8)] [] (post) := by
  intro m
  induction m with
  | zero => intro o x8 τ e8 h1 h2 h3 h4 hoi hm; exact absurd hm (by omega)
  | succ m ih =>
    intro o x8 τ e8 h1 h2 h3 h4 hoi hm
    subst e8
    refine g_iload (i := 8) (by decide +kernel) rfl ?_
    refine g_iload (i := 5) (by decide +kernel) rfl ?_
    refine g_icmp_lt (off := 45) (tgt := 94) (by decide +kernel) (by decide) ⟨by omega, by omega⟩ ⟨by omega, by omega⟩ (fun h49 => ?_) (fun h49 => ?_)
    · refine g_aload_n (i := 0) (by decide +kernel) rfl ?_
      refine g_getr f_Sr_9 (by decide +kernel) (by omega) rfl rfl ?_
      refine g_iload (i := 8) (by decide +kernel) rfl ?_
      refine g_iload (i := 7) (by decide +kernel) rfl ?_
      refine g_iast (j := o) (by decide +kernel) (by omega) rfl rfl (by omega) (by decide) ?_
      refine g_iinc (i := 6) (b := 1) (L' := [(0, _), (1, _), (2, _), (3, _), (4, _), (5, _), (6, _), (7, _), (8, _)]) (by decide +kernel) rfl rfl rfl ?_
      refine g_goto (off := -80) (tgt := 26) (by decide +kernel) (by decide) ?_
      refine g_less [0, 1, 2, 3, 4, 5, 6] rfl (kk _ ⟨fun a ha => by rw [zs_other ha]; exact h1 a ha, ?_, fun j hj => ?_⟩ ?_)
      · rw [zs_row]; exact h2
      · rw [zs_row]
        unfold zu
        split
        · exact hv
        · exact h3 j hj
      · rw [zs_row]; exact zGo2_e hg h4 (by omega)
    · refine g_aload_n (i := 0) (by decide +kernel) rfl ?_
      refine g_getr f_Sr_9 (by decide +kernel) (by omega) rfl rfl ?_
      refine g_iload (i := 8) (by decide +kernel) rfl ?_
      refine g_iload (i := 5) (by decide +kernel) rfl ?_
      refine g_isub (by decide +kernel) ?_
      refine g_iald (j := (o - g)) (by decide +kernel) (by omega) rfl (by omega) (by omega) (by decide) ?_
      refine g_iload (i := 7) (by decide +kernel) rfl ?_
      refine g_icmp_le (off := 30) (tgt := 94) (by decide +kernel) (by decide) (h3 (o - g) (by omega)) hv (fun h64 => ?_) (fun h64 => ?_)
      · refine g_aload_n (i := 0) (by decide +kernel) rfl ?_
        refine g_getr f_Sr_9 (by decide +kernel) (by omega) rfl rfl ?_
        refine g_iload (i := 8) (by decide +kernel) rfl ?_
        refine g_iload (i := 7) (by decide +kernel) rfl ?_
        refine g_iast (j := o) (by decide +kernel) (by omega) rfl rfl (by omega) (by decide) ?_
        refine g_iinc (i := 6) (b := 1) (L' := [(0, _), (1, _), (2, _), (3, _), (4, _), (5, _), (6, _), (7, _), (8, _)]) (by decide +kernel) rfl rfl rfl ?_
        refine g_goto (off := -80) (tgt := 26) (by decide +kernel) (by decide) ?_
        refine g_less [0, 1, 2, 3, 4, 5, 6] rfl (kk _ ⟨fun a ha => by rw [zs_other ha]; exact h1 a ha, ?_, fun j hj => ?_⟩ ?_)
        · rw [zs_row]; exact h2
        · rw [zs_row]
          unfold zu
          split
          · exact hv
          · exact h3 j hj
        · rw [zs_row]; exact zGo2_e hg h4 (by omega)
      · refine g_aload_n (i := 0) (by decide +kernel) rfl ?_
        refine g_getr f_Sr_9 (by decide +kernel) (by omega) rfl rfl ?_
        refine g_iload (i := 8) (by decide +kernel) rfl ?_
        refine g_aload_n (i := 0) (by decide +kernel) rfl ?_
        refine g_getr f_Sr_9 (by decide +kernel) (by omega) rfl rfl ?_
        refine g_iload (i := 8) (by decide +kernel) rfl ?_
        refine g_iload (i := 5) (by decide +kernel) rfl ?_
        refine g_isub (by decide +kernel) ?_
        refine g_iald (j := (o - g)) (by decide +kernel) (by omega) rfl (by omega) (by omega) (by decide) ?_
        refine g_iast (j := o) (by decide +kernel) (by omega) rfl rfl (by omega) (by decide) ?_
        refine g_iload (i := 8) (by decide +kernel) rfl ?_
        refine g_iload (i := 5) (by decide +kernel) rfl ?_
        refine g_isub (by decide +kernel) ?_
        refine g_istore (i := 8) (L' := [(0, _), (1, _), (2, _), (3, _), (4, _), (5, _), (6, _), (7, _), (8, _)]) (by decide +kernel) rfl rfl ?_
        refine g_goto (off := -46) (tgt := 45) (by decide +kernel) (by decide) ?_
        refine ih (o - g) _ _ (by omega) (fun a ha => by rw [zs_other ha]; exact h1 a ha) ?_ (fun j hj => ?_) ?_ (by omega) (by omega)
        · rw [zs_row]; exact zSame_swap (by omega) (by omega) (by omega) h2
        · rw [zs_row]
          unfold zu
          split
          · exact h3 _ (by omega)
          · exact h3 j hj
        · rw [zs_row]; exact zGo2_s hg (by omega) h4 (by omega)
theorem w2_Sr_sortRow {G : zG} {X : zX} {n : Nat} {σ : zSt} {N : Nat} {post : zPost} (hn : 189 ≤ n) (hN : N ≤ 2000) {x4 : Int} {g : Nat} (hg : 1 ≤ g ∧ g ≤ 2000) (kk : ∀ τ, zSo σ τ N → zGs (τ 94) g N → Go G X m_Sr_sortRow (0, 0, 0, 0, 0) n SH τ 109 [(0, vr G 93), (1, vi (N : Int)), (2, .ref (G.2.2.2.2.2 3)), (3, vi 7), (4, vi x4), (5, vi (g : Int))] [] post) : ∀ (m : Nat) (i : Nat) (x6 : Int) (τ : zSt), x6 = (i : Int) → zSo σ τ N → zGs (τ 94) g i → i ≤ N + 2000 → N + 2000 < i + m → Go G X m_Sr_sortRow (0, 0, 0, 0, 0) n SH τ 26 [(0, vr G 93), (1, vi (N : Int)), (2, .ref (G.2.2.2.2.2 3)), (3, vi 7), (4, vi x4), (5, vi (g : Int)), (6, vi x6)] [] (post) := by
  intro m
  induction m with
  | zero => intro i x6 τ e6 h1 h2 hi hm; exact absurd hm (by omega)
  | succ m ih =>
    intro i x6 τ e6 h1 h2 hi hm
    subst e6
    refine g_iload (i := 6) (by decide +kernel) rfl ?_
    refine g_iload_n (i := 1) (by decide +kernel) rfl ?_
    refine g_icmp_ge (off := 80) (tgt := 109) (by decide +kernel) (by decide) ⟨by omega, by omega⟩ ⟨by omega, by omega⟩ (fun h29 => ?_) (fun h29 => ?_)
    · exact g_less [0, 1, 2, 3, 4, 5] rfl (kk _ h1 (fun j j1 j2 => h2 j j1 (by omega)))
    · refine g_aload_n (i := 0) (by decide +kernel) rfl ?_
      refine g_getr f_Sr_9 (by decide +kernel) (by omega) rfl rfl ?_
      refine g_iload (i := 6) (by decide +kernel) rfl ?_
      refine g_iald (j := i) (by decide +kernel) (by omega) rfl rfl (by omega) (by decide) ?_
      refine g_istore (i := 7) (L' := [(0, _), (1, _), (2, _), (3, _), (4, _), (5, _), (6, _), (7, _)]) (by decide +kernel) rfl rfl ?_
      refine g_iload (i := 6) (by decide +kernel) rfl ?_
      refine g_istore (i := 8) (L' := [(0, _), (1, _), (2, _), (3, _), (4, _), (5, _), (6, _), (7, _), (8, _)]) (by decide +kernel) rfl rfl ?_
      exact w3_Sr_sortRow (v := τ 94 i) hn hN hg.1 hg.2 (by omega) (h1.2.2 i (by omega)) (fun τ2 s1 s2 => ih (i + 1) _ _ (by push_cast; rfl) s1 s2 (by omega) (by omega)) (i + 1) i _ τ rfl h1.1 (by rw [zu_self]; exact h1.2.1) h1.2.2 (zGo2_0 hg.1 h2) (Nat.le_refl _) (by omega)
def zSorted (σ σ' : zSt) (n : Nat) : Prop := zSo σ σ' n ∧ zGs (σ' 94) 1 n
theorem zTab3 : ∀ s, s < 7 → ∃ g : Nat, zTab 3 s = (g : Int) ∧ 1 ≤ g ∧ g ≤ 2000 := by
  intro s hs
  rcases (by omega : s = 0 ∨ s = 1 ∨ s = 2 ∨ s = 3 ∨ s = 4 ∨ s = 5 ∨ s = 6) with rfl | rfl | rfl | rfl | rfl | rfl | rfl
  · exact ⟨1093, rfl, by decide, by decide⟩
  · exact ⟨364, rfl, by decide, by decide⟩
  · exact ⟨121, rfl, by decide, by decide⟩
  · exact ⟨40, rfl, by decide, by decide⟩
  · exact ⟨13, rfl, by decide, by decide⟩
  · exact ⟨4, rfl, by decide, by decide⟩
  · exact ⟨1, rfl, by decide, by decide⟩
theorem w_Sr_sortRow {G : zG} {X : zX} {n : Nat} {σ : zSt} {N : Nat} (hn : 189 ≤ n) (hN : N ≤ 2000) : ∀ (m : Nat) (s : Nat) (x4 : Int) (τ : zSt), x4 = (s : Int) → zSo σ τ N → (s = 7 → zGs (τ 94) 1 N) → s ≤ 7 → 7 < s + m → Go G X m_Sr_sortRow (0, 0, 0, 0, 0) n SH τ 10 [(0, vr G 93), (1, vi (N : Int)), (2, .ref (G.2.2.2.2.2 3)), (3, vi 7), (4, vi x4)] [] (zV n SH (fun σ' => zSorted σ σ' N)) := by
  intro m
  induction m with
  | zero => intro s x4 τ e4 h1 h2 hi hm; exact absurd hm (by omega)
  | succ m ih =>
    intro s x4 τ e4 h1 h2 hi hm
    subst e4
    refine g_iload (i := 4) (by decide +kernel) rfl ?_
    refine g_iload_n (i := 3) (by decide +kernel) rfl ?_
    refine g_icmp_ge (off := 102) (tgt := 115) (by decide +kernel) (by decide) ⟨by omega, by omega⟩ ⟨by omega, by omega⟩ (fun h13 => ?_) (fun h13 => ?_)
    · refine g_retV (by decide +kernel) rfl ⟨by decide, by decide⟩ ?_
      exact ⟨h1, h2 (by omega)⟩
    · obtain ⟨g, eg, g1, g2⟩ := zTab3 s (by omega)
      refine g_aload_n (i := 2) (by decide +kernel) rfl ?_
      refine g_iload (i := 4) (by decide +kernel) rfl ?_
      refine g_tald 3 (by decide) (j := s) (by decide +kernel) rfl (by show _ < 7; omega) ?_
      rw [eg]
      refine g_istore (i := 5) (L' := [(0, _), (1, _), (2, _), (3, _), (4, _), (5, _)]) (by decide +kernel) rfl rfl ?_
      refine g_iload (i := 5) (by decide +kernel) rfl ?_
      refine g_istore (i := 6) (L' := [(0, _), (1, _), (2, _), (3, _), (4, _), (5, _), (6, _)]) (by decide +kernel) rfl rfl ?_
      refine w2_Sr_sortRow (x4 := (s : Int)) hn hN ⟨g1, g2⟩ (fun τ2 s1 s2 => ?_) (N + 2001) g _ τ rfl h1 (fun j j1 j2 => by omega) (by omega) (by omega)
      refine g_iinc (i := 4) (b := 1) (L' := [(0, _), (1, _), (2, _), (3, _), (4, _), (5, _)]) (by decide +kernel) rfl rfl rfl ?_
      refine g_goto (off := -102) (tgt := 10) (by decide +kernel) (by decide) ?_
      refine g_less [0, 1, 2, 3, 4] rfl (ih (s + 1) _ _ (by push_cast; rfl) s1 (fun e => ?_) (by omega) (by omega))
      have e6 : s = 6 := by omega
      subst e6
      have : g = 1 := by have q : (1 : Int) = (g : Int) := eg; omega
      rw [this] at s2
      exact s2
theorem c_Sr_sortRow {G : zG} {n : Nat} {σ : zSt} {N : Nat} (hn : 189 ≤ n) (hN : N ≤ 2000) (hz : ∀ j, j < N → zr (σ 94 j)) : Gm G y_Sr_sortRow m_Sr_sortRow 0 0 0 [vr G 93, vi (N : Int)] n SH σ (zV n SH (fun σ' => zSorted σ σ' N)) := by
  refine g_enter (L := [(0, _), (1, _)]) (by decide) rfl rfl rfl (Nat.le_of_ble_eq_true rfl) (fun X => ?_)
  refine g_gets (x := 58) 3 (by decide) (by decide +kernel) s_Sr_58 ?_
  refine g_astore_n (i := 2) (L' := [(0, _), (1, _), (2, _)]) (by decide +kernel) rfl rfl ?_
  refine g_aload_n (i := 2) (by decide +kernel) rfl ?_
  refine g_tlen 3 (by decide) (by decide +kernel) ?_
  refine g_istore_n (i := 3) (L' := [(0, _), (1, _), (2, _), (3, _)]) (by decide +kernel) rfl rfl ?_
  refine g_iconst (a := 0) (by decide +kernel) ?_
  refine g_istore (i := 4) (L' := [(0, _), (1, _), (2, _), (3, _), (4, _)]) (by decide +kernel) rfl rfl ?_
  exact w_Sr_sortRow hn hN 8 0 _ σ rfl ⟨fun _ _ => rfl, zSame.rf _ _, hz⟩ (fun e => by omega) (by omega) (by omega)
