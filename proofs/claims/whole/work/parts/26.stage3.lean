/-- leaf j stands ahead of (layer L, number below c) -/
def zAh (S : zSt) (L : Int) (c j : Nat) : Bool := decide (S 1 j = 0 ∧ (L < S 7 (9 * j + 6) ∨ (S 7 (9 * j + 6) = L ∧ c ≤ j)))
/-- how many stand ahead of leaf k -/
def zpo (S : zSt) (k : Nat) : Nat := zcnt (zAh S (S 7 (9 * k + 6)) (k + 1)) (zN S)
/-- the leaves as they stand: the i-th has i ahead of it -/
def zStand (S : zSt) (sd : Nat → Int) (m : Nat) : Prop := ∀ i, i < m → 0 ≤ sd i ∧ (sd i).toNat < zN S ∧ S 1 (sd i).toNat = 0 ∧ zpo S (sd i).toNat = i
theorem zStand.inj {S : zSt} {sd : Nat → Int} {m : Nat} (h : zStand S sd m) : ∀ i j, i < m → j < m → sd i = sd j → i = j := fun i j hi hj e => by
  have a := (h i hi).2.2.2
  have b := (h j hj).2.2.2
  rw [e] at a
  omega
theorem zcnt_mono {p q : Nat → Bool} : ∀ {n : Nat}, (∀ j, j < n → p j = true → q j = true) → zcnt p n ≤ zcnt q n
  | 0, _ => Nat.le_refl 0
  | n + 1, h => by
    have a := zcnt_mono (fun j hj => h j (by omega)) (n := n)
    unfold zcnt
    cases hp : p n with
    | true => rw [h n (by omega) hp]; omega
    | false => simp; omega
/-- two leaves stand at two places -/
theorem zpo_lt {S : zSt} {j k : Nat} (hj : j < zN S) (hl : S 1 j = 0) (h : S 7 (9 * k + 6) < S 7 (9 * j + 6) ∨ (S 7 (9 * j + 6) = S 7 (9 * k + 6) ∧ k < j)) : zpo S j < zpo S k := by
  unfold zpo
  have a : ∀ i, i < zN S → zAh S (S 7 (9 * j + 6)) (j + 1) i = true → zAh S (S 7 (9 * k + 6)) (k + 1) i = true := fun i _ hi => decide_eq_true (by have := of_decide_eq_true hi; omega)
  have b : zAh S (S 7 (9 * j + 6)) (j + 1) j = false := decide_eq_false (by omega)
  have c : zAh S (S 7 (9 * k + 6)) (k + 1) j = true := decide_eq_true (by omega)
  have key : ∀ n, j < n → (∀ i, i < n → zAh S (S 7 (9 * j + 6)) (j + 1) i = true → zAh S (S 7 (9 * k + 6)) (k + 1) i = true) → zcnt (zAh S (S 7 (9 * j + 6)) (j + 1)) n < zcnt (zAh S (S 7 (9 * k + 6)) (k + 1)) n := by
    intro n
    induction n with
    | zero => intro h1; omega
    | succ n ih =>
      intro h1 h2
      rcases Nat.lt_or_ge j n with z | z
      · have := ih z (fun i hi => h2 i (by omega))
        unfold zcnt
        cases hp : zAh S (S 7 (9 * j + 6)) (j + 1) n with
        | true => rw [h2 n (by omega) hp]; omega
        | false => simp; omega
      · have e : n = j := by omega
        subst e
        have := zcnt_mono (p := zAh S (S 7 (9 * n + 6)) (n + 1)) (q := zAh S (S 7 (9 * k + 6)) (k + 1)) (n := n) (fun i hi => h2 i (by omega))
        rw [zcnt_f b, zcnt_t c]
        omega
  exact key _ hj a
theorem zpo_inj {S : zSt} {j k : Nat} (hj : j < zN S) (hk : k < zN S) (lj : S 1 j = 0) (lk : S 1 k = 0) (e : zpo S j = zpo S k) : j = k := by
  by_cases h : j = k
  · exact h
  · exfalso
    by_cases a : S 7 (9 * k + 6) < S 7 (9 * j + 6) ∨ (S 7 (9 * j + 6) = S 7 (9 * k + 6) ∧ k < j)
    · have := zpo_lt hj lj a; omega
    · have := zpo_lt hk lk (j := k) (k := j) (by omega); omega
/-- one order alone -/
theorem zStand_uniq {S : zSt} {sd sd' : Nat → Int} {m : Nat} (h : zStand S sd m) (h' : zStand S sd' m) : ∀ i, i < m → sd i = sd' i := fun i hi => by
  have a := h i hi
  have b := h' i hi
  have := zpo_inj a.2.1 b.2.1 a.2.2.1 b.2.2.1 (by rw [a.2.2.2, b.2.2.2])
  omega
theorem zAh_step {S : zSt} {L : Int} {k N : Nat} (h1 : S 1 k = 0) (h7 : S 7 (9 * k + 6) = L) (hk : k < N) : zcnt (zAh S L k) N = zcnt (zAh S L (k + 1)) N + 1 := by
  have a : zAh S L k k = true := decide_eq_true ⟨h1, Or.inr ⟨h7, Nat.le_refl _⟩⟩
  have b : zAh S L (k + 1) k = false := decide_eq_false (by omega)
  have c : ∀ j, j ≠ k → zAh S L k j = zAh S L (k + 1) j := fun j hj => by unfold zAh; rw [Bool.eq_iff_iff]; simp only [decide_eq_true_eq]; omega
  have key : ∀ n, k < n → zcnt (zAh S L k) n = zcnt (zAh S L (k + 1)) n + 1 := by
    intro n
    induction n with
    | zero => intro h; omega
    | succ n ih =>
      intro h
      rcases Nat.lt_or_ge k n with z | z
      · have := ih z
        unfold zcnt
        rw [c n (by omega)]
        omega
      · have e : n = k := by omega
        subst e
        rw [zcnt_t a, zcnt_f b, zcnt_congr (fun j hj => c j (by omega))]
  exact key N hk
theorem w2_Sg_standLeaves {G : zG} {X : zX} {n : Nat} {σ : zSt} {post : zPost} {x1 : Int} (hn : 189 ≤ n) (hg : zGood σ 1) (hly : ∀ k, k < (σ 1 0).toNat → 0 ≤ σ 8 (9 * k + 6) ∧ σ 8 (9 * k + 6) ≤ 9) (h1 : 0 ≤ x1 ∧ x1 ≤ 9) (kk : ∀ τ', ((∀ a, a ≠ 44 → a ≠ 33 → τ' a = σ a) ∧ (∀ j, j ≠ 6 → τ' 33 j = σ 33 j) ∧ τ' 33 6 = (zcnt (zAh (zSv σ 1) x1 0) (σ 1 0).toNat : Int) ∧ zStand (zSv σ 1) (τ' 44) (zcnt (zAh (zSv σ 1) x1 0) (σ 1 0).toNat)) → Go G X m_Sg_standLeaves (1, 0, 0, 0, 0) n SH τ' 12 [(0, vr G 33), (1, vi (x1 - 1))] [] post) : ∀ (m : Nat) (c : Nat) (x2 : Int) (τ : zSt), x2 = (c : Int) - 1 → ((∀ a, a ≠ 44 → a ≠ 33 → τ a = σ a) ∧ (∀ j, j ≠ 6 → τ 33 j = σ 33 j) ∧ τ 33 6 = (zcnt (zAh (zSv σ 1) x1 c) (σ 1 0).toNat : Int) ∧ zStand (zSv σ 1) (τ 44) (zcnt (zAh (zSv σ 1) x1 c) (σ 1 0).toNat)) → c ≤ (σ 1 0).toNat → c < m → Go G X m_Sg_standLeaves (1, 0, 0, 0, 0) n SH τ 26 [(0, vr G 33), (1, vi x1), (2, vi x2)] [] (post) := by
  intro m
  induction m with
  | zero => intro c x2 τ e2 ht hi hm; exact absurd hm (by omega)
  | succ m ih =>
    intro c x2 τ e2 ht hi hm
    have hc := hg.1
    have hc0 : 0 ≤ σ 1 0 ∧ σ 1 0 ≤ 12 := ⟨hc.1, hc.2.1⟩
    obtain ⟨t1, t2, t3, t4⟩ := id ht
    have cl := zcnt_le (zAh (zSv σ 1) x1 c) (σ 1 0).toNat
    refine g_iload_n (i := 2) (by decide +kernel) rfl ?_
    refine g_if_lt (off := 55) (tgt := 82) (by decide +kernel) (by decide) ⟨by omega, by omega⟩ (fun h27 => ?_) (fun h27 => ?_)
    · have c0 : c = 0 := by omega
      subst c0
      refine g_iinc (i := 1) (b := -1) (L' := [(0, _), (1, _), (2, _)]) (by decide +kernel) rfl rfl rfl ?_
      refine g_goto (off := -73) (tgt := 12) (by decide +kernel) (by decide) ?_
      refine g_less [0, 1] rfl (kk _ ht)
    · obtain ⟨k, rfl⟩ : ∃ k, c = k + 1 := ⟨c - 1, by omega⟩
      have ex : x2 = (k : Int) := by omega
      subst ex
      have k1 : τ 2 k = σ 2 k := by rw [t1 2 (by decide) (by decide)]
      have kd : 0 ≤ σ 2 k ∧ σ 2 k ≤ 2 := (hg.2.1 k (by omega)).1
      have m6 : τ 8 (9 * k + 6) = σ 8 (9 * k + 6) := by rw [t1 8 (by decide) (by decide)]
      have l6 := hly k (by omega)
      refine g_aload_n (i := 0) (by decide +kernel) rfl ?_
      refine g_getr f_Sg_29 (by decide +kernel) (by omega) rfl rfl ?_
      refine g_getr f_Sg_96 (by decide +kernel) (by omega) rfl rfl ?_
      refine g_iload_n (i := 2) (by decide +kernel) rfl ?_
      refine g_iald (j := k) (by decide +kernel) (by omega) rfl rfl (by omega) (by decide) ?_
      refine g_if_ne (off := 37) (tgt := 76) (by decide +kernel) (by decide) ⟨by omega, by omega⟩ (fun h39 => ?_) (fun h39 => ?_)
      · have hA : ∀ j, zAh (zSv σ 1) x1 k j = zAh (zSv σ 1) x1 (k + 1) j := fun j => by
          by_cases e : j = k
          · subst e
            have : ¬ zSv σ 1 1 j = 0 := by show ¬ σ 2 j = 0; omega
            unfold zAh; simp [this]
          · unfold zAh; rw [Bool.eq_iff_iff]; simp only [decide_eq_true_eq]; omega
        refine g_iinc (i := 2) (b := -1) (L' := [(0, _), (1, _), (2, _)]) (by decide +kernel) rfl rfl rfl ?_
        refine g_goto (off := -53) (tgt := 26) (by decide +kernel) (by decide) ?_
        first
          | exact ih k _ _ rfl (by rw [show zAh (zSv σ 1) x1 k = zAh (zSv σ 1) x1 (k + 1) from funext hA]; exact ht) (by omega) (by omega)
          | refine ih k _ _ rfl ⟨fun a h1 h2 => by rw [zs_other h2, zs_other h1]; exact t1 a h1 h2, fun j hj => by rw [zs_row, zu_ne hj, zs_other (by decide)]; exact t2 j hj, by rw [zs_eq, zs_other (by decide), t3, cA]; push_cast; rfl, ?_⟩ (by omega) (by omega)
            rw [zs_other (by decide), zs_row, cA]
            intro i hi2
            by_cases e : i = zcnt (zAh (zSv σ 1) x1 (k + 1)) (σ 1 0).toNat
            · subst e
              rw [zu_eq]
              exact ⟨by omega, by rw [Int.toNat_natCast]; exact hk, by rw [Int.toNat_natCast]; exact q1, by rw [Int.toNat_natCast]; exact po⟩
            · rw [zu_ne e]
              exact t4 i (by omega)
      · refine g_aload_n (i := 0) (by decide +kernel) rfl ?_
        refine g_getr f_Sg_29 (by decide +kernel) (by omega) rfl rfl ?_
        refine g_iload_n (i := 2) (by decide +kernel) rfl ?_
        refine g_bipush (a := 6) (by decide +kernel) (by decide) ?_
        refine g_cVI (st := []) (c_Sh_markOf (b := 1) (k := k) (w := 6) hn sh_1 (by omega) (by decide)) k_Sh_markOf l_Sg_99 (by decide +kernel) (by omega) rfl rfl rfl rfl (Nat.le_of_ble_eq_true rfl) (by decide) ⟨by decide, by decide⟩ ?_
        rintro a σ1 ⟨ea, hσ⟩
        obtain rfl := hσ.symm
        have ea : a = τ 8 (9 * k + 6) := ea
        subst ea
        refine g_iload_n (i := 1) (by decide +kernel) rfl ?_
        refine g_icmp_ne (off := 23) (tgt := 76) (by decide +kernel) (by decide) ⟨by omega, by omega⟩ ⟨by omega, by omega⟩ (fun h53 => ?_) (fun h53 => ?_)
        · have hA : ∀ j, zAh (zSv σ 1) x1 k j = zAh (zSv σ 1) x1 (k + 1) j := fun j => by
            by_cases e : j = k
            · subst e
              have : ¬ zSv σ 1 7 (9 * j + 6) = x1 := by show ¬ σ 8 (9 * j + 6) = x1; omega
              unfold zAh; rw [Bool.eq_iff_iff]; simp only [decide_eq_true_eq]; omega
            · unfold zAh; rw [Bool.eq_iff_iff]; simp only [decide_eq_true_eq]; omega
          refine g_iinc (i := 2) (b := -1) (L' := [(0, _), (1, _), (2, _)]) (by decide +kernel) rfl rfl rfl ?_
          refine g_goto (off := -53) (tgt := 26) (by decide +kernel) (by decide) ?_
          first
            | exact ih k _ _ rfl (by rw [show zAh (zSv σ 1) x1 k = zAh (zSv σ 1) x1 (k + 1) from funext hA]; exact ht) (by omega) (by omega)
            | refine ih k _ _ rfl ⟨fun a h1 h2 => by rw [zs_other h2, zs_other h1]; exact t1 a h1 h2, fun j hj => by rw [zs_row, zu_ne hj, zs_other (by decide)]; exact t2 j hj, by rw [zs_eq, zs_other (by decide), t3, cA]; push_cast; rfl, ?_⟩ (by omega) (by omega)
              rw [zs_other (by decide), zs_row, cA]
              intro i hi2
              by_cases e : i = zcnt (zAh (zSv σ 1) x1 (k + 1)) (σ 1 0).toNat
              · subst e
                rw [zu_eq]
                exact ⟨by omega, by rw [Int.toNat_natCast]; exact hk, by rw [Int.toNat_natCast]; exact q1, by rw [Int.toNat_natCast]; exact po⟩
              · rw [zu_ne e]
                exact t4 i (by omega)
        · have q1 : zSv σ 1 1 k = 0 := by show σ 2 k = 0; omega
          have q7 : zSv σ 1 7 (9 * k + 6) = x1 := by show σ 8 (9 * k + 6) = x1; omega
          have hk : k < (σ 1 0).toNat := by omega
          have cA : zcnt (zAh (zSv σ 1) x1 k) (σ 1 0).toNat = zcnt (zAh (zSv σ 1) x1 (k + 1)) (σ 1 0).toNat + 1 := zAh_step q1 q7 hk
          have po : zpo (zSv σ 1) k = zcnt (zAh (zSv σ 1) x1 (k + 1)) (σ 1 0).toNat := by unfold zpo; rw [q7]; rfl
          have cl2 := zcnt_le (zAh (zSv σ 1) x1 k) (σ 1 0).toNat
          refine g_aload_n (i := 0) (by decide +kernel) rfl ?_
          refine g_getr f_Sg_26 (by decide +kernel) (by omega) rfl rfl ?_
          refine g_aload_n (i := 0) (by decide +kernel) rfl ?_
          refine g_geti f_Sg_87 (by decide +kernel) (by omega) rfl rfl ?_
          refine g_iload_n (i := 2) (by decide +kernel) rfl ?_
          refine g_iast (j := zcnt (zAh (zSv σ 1) x1 (k + 1)) (σ 1 0).toNat) (by decide +kernel) (by omega) rfl t3 (by omega) (by decide) ?_
          refine g_aload_n (i := 0) (by decide +kernel) rfl ?_
          refine g_dup (by decide +kernel) rfl ?_
          refine g_geti f_Sg_87 (by decide +kernel) (by omega) rfl rfl ?_
          refine g_iconst (a := 1) (by decide +kernel) ?_
          refine g_iadd (by decide +kernel) ?_
          refine g_puti f_Sg_87 (by decide +kernel) (by omega) rfl rfl ?_
          refine g_iinc (i := 2) (b := -1) (L' := [(0, _), (1, _), (2, _)]) (by decide +kernel) rfl rfl rfl ?_
          refine g_goto (off := -53) (tgt := 26) (by decide +kernel) (by decide) ?_
          first
            | exact ih k _ _ rfl (by rw [show zAh (zSv σ 1) x1 k = zAh (zSv σ 1) x1 (k + 1) from funext hA]; exact ht) (by omega) (by omega)
            | refine ih k _ _ rfl ⟨fun a h1 h2 => by rw [zs_other h2, zs_other h1]; exact t1 a h1 h2, fun j hj => by rw [zs_row, zu_ne hj, zs_other (by decide)]; exact t2 j hj, by rw [zs_eq, zs_other (by decide), t3, cA]; push_cast; rfl, ?_⟩ (by omega) (by omega)
              rw [zs_other (by decide), zs_row, cA]
              intro i hi2
              by_cases e : i = zcnt (zAh (zSv σ 1) x1 (k + 1)) (σ 1 0).toNat
              · subst e
                rw [zu_eq]
                exact ⟨by omega, by rw [Int.toNat_natCast]; exact hk, by rw [Int.toNat_natCast]; exact q1, by rw [Int.toNat_natCast]; exact po⟩
              · rw [zu_ne e]
                exact t4 i (by omega)
theorem w_Sg_standLeaves {G : zG} {X : zX} {n : Nat} {σ : zSt} (hn : 189 ≤ n) (hg : zGood σ 1) (hly : ∀ k, k < (σ 1 0).toNat → 0 ≤ σ 8 (9 * k + 6) ∧ σ 8 (9 * k + 6) ≤ 9) : ∀ (m : Nat) (l : Nat) (x1 : Int) (τ : zSt) (L2 : List (Nat × Value)), x1 = (l : Int) - 1 → ((∀ a, a ≠ 44 → a ≠ 33 → τ a = σ a) ∧ (∀ j, j ≠ 6 → τ 33 j = σ 33 j) ∧ τ 33 6 = (zcnt (zAh (zSv σ 1) x1 (σ 1 0).toNat) (σ 1 0).toNat : Int) ∧ zStand (zSv σ 1) (τ 44) (zcnt (zAh (zSv σ 1) x1 (σ 1 0).toNat) (σ 1 0).toNat)) → (L2 = [] ∨ ∃ v, L2 = [(2, vi v)]) → l ≤ 10 → l < m → Go G X m_Sg_standLeaves (1, 0, 0, 0, 0) n SH τ 12 ([(0, vr G 33), (1, vi x1)] ++ L2) [] (zV n SH (fun σ' => (∀ a, a ≠ 44 → a ≠ 33 → σ' a = σ a) ∧ (∀ j, j ≠ 6 → σ' 33 j = σ 33 j) ∧ σ' 33 6 = (zcnt (fun j => decide (σ 2 j = 0)) (σ 1 0).toNat : Int) ∧ zStand (zSv σ 1) (σ' 44) (zcnt (fun j => decide (σ 2 j = 0)) (σ 1 0).toNat))) := by
  intro m
  induction m with
  | zero => intro l x1 τ L2 e1 ht h2 hi hm; exact absurd hm (by omega)
  | succ m ih =>
    intro l x1 τ L2 e1 ht h2 hi hm
    have hc0 : 0 ≤ σ 1 0 ∧ σ 1 0 ≤ 12 := ⟨hg.1.1, hg.1.2.1⟩
    obtain ⟨t1, t2, t3, t4⟩ := id ht
    have s0 : τ 1 0 = σ 1 0 := by rw [t1 1 (by decide) (by decide)]
    refine g_less [0, 1] (L' := [(0, vr G 33), (1, vi x1)]) (by rcases h2 with rfl | ⟨v, rfl⟩ <;> rfl) ?_
    refine g_iload_n (i := 1) (by decide +kernel) rfl ?_
    refine g_if_lt (off := 75) (tgt := 88) (by decide +kernel) (by decide) ⟨by omega, by omega⟩ (fun h13 => ?_) (fun h13 => ?_)
    · refine g_retV (by decide +kernel) rfl ⟨by decide, by decide⟩ ?_
      have e : ∀ j, j < (σ 1 0).toNat → zAh (zSv σ 1) x1 (σ 1 0).toNat j = decide (σ 2 j = 0) := fun j hj => by
        have a := hly j hj
        have b : zSv σ 1 7 (9 * j + 6) = σ 8 (9 * j + 6) := rfl
        have c : zSv σ 1 1 j = σ 2 j := rfl
        unfold zAh; rw [Bool.eq_iff_iff]; simp only [decide_eq_true_eq]; omega
      rw [zcnt_congr e] at t3 t4
      exact ⟨t1, t2, t3, t4⟩
    · refine g_aload_n (i := 0) (by decide +kernel) rfl ?_
      refine g_getr f_Sg_29 (by decide +kernel) (by omega) rfl rfl ?_
      refine g_geti f_Sg_80 (by decide +kernel) (by omega) rfl rfl ?_
      refine g_iconst (a := 1) (by decide +kernel) ?_
      refine g_isub (by decide +kernel) ?_
      refine g_istore_n (i := 2) (L' := [(0, _), (1, _), (2, _)]) (by decide +kernel) rfl rfl ?_
      refine w2_Sg_standLeaves (σ := σ) hn hg hly ⟨by omega, by omega⟩ (fun τ' h => ?_) ((σ 1 0).toNat + 1) (σ 1 0).toNat _ τ (by omega) ht (by omega) (by omega)
      refine ih (l - 1) _ τ' [] (by omega) ?_ (Or.inl rfl) (by omega) (by omega)
      have e : ∀ j, j < (σ 1 0).toNat → zAh (zSv σ 1) (x1 - 1) (σ 1 0).toNat j = zAh (zSv σ 1) x1 0 j := fun j hj => by
        unfold zAh; rw [Bool.eq_iff_iff]; simp only [decide_eq_true_eq]; omega
      rw [zcnt_congr e]
      exact h
theorem c_Sg_standLeaves {G : zG} {n : Nat} {σ : zSt} (hn : 189 ≤ n) (hg : zGood σ 1) (hly : ∀ k, k < (σ 1 0).toNat → 0 ≤ σ 8 (9 * k + 6) ∧ σ 8 (9 * k + 6) ≤ 9) : Gm G y_Sg_standLeaves m_Sg_standLeaves 1 0 0 [vr G 33] n SH σ (zV n SH (fun σ' => (∀ a, a ≠ 44 → a ≠ 33 → σ' a = σ a) ∧ (∀ j, j ≠ 6 → σ' 33 j = σ 33 j) ∧ σ' 33 6 = (zcnt (fun j => decide (σ 2 j = 0)) (σ 1 0).toNat : Int) ∧ zStand (zSv σ 1) (σ' 44) (zcnt (fun j => decide (σ 2 j = 0)) (σ 1 0).toNat))) := by
  refine g_enter (L := [(0, _)]) (by decide) rfl rfl rfl (Nat.le_of_ble_eq_true rfl) (fun X => ?_)
  have hc0 : 0 ≤ σ 1 0 ∧ σ 1 0 ≤ 12 := ⟨hg.1.1, hg.1.2.1⟩
  refine g_aload_n (i := 0) (by decide +kernel) rfl ?_
  refine g_iconst (a := 0) (by decide +kernel) ?_
  refine g_puti f_Sg_87 (by decide +kernel) (by omega) rfl rfl ?_
  refine g_getsN (x := 93) 1 (by decide) (by decide +kernel) (by decide) ?_
  refine g_bipush (a := 6) (by decide +kernel) (by decide) ?_
  refine g_tald 1 (by decide) (j := 6) (by decide +kernel) rfl (by show _ < 9; omega) ?_
  refine g_istore_n (i := 1) (L' := [(0, _), (1, _)]) (by decide +kernel) rfl rfl ?_
  have e : ∀ j, j < (σ 1 0).toNat → zAh (zSv σ 1) 9 (σ 1 0).toNat j = false := fun j hj => by
    have a := hly j hj
    have b : zSv σ 1 7 (9 * j + 6) = σ 8 (9 * j + 6) := rfl
    exact decide_eq_false (by omega)
  have z : zcnt (zAh (zSv σ 1) 9 (σ 1 0).toNat) (σ 1 0).toNat = 0 := by
    rw [zcnt_congr (q := fun _ => false) e]
    generalize (σ 1 0).toNat = N
    induction N with
    | zero => rfl
    | succ N ih => rw [zcnt_f rfl]; exact ih
  exact w_Sg_standLeaves hn hg hly 11 10 9 _ [] rfl ⟨fun a h1 h2 => zs_other h2, fun j hj => by rw [zs_row, zu_ne hj], by rw [z, zs_eq]; rfl, by rw [z]; exact fun i hi => by omega⟩ (Or.inl rfl) (by omega) (by omega)
