/-! HOW MANY UNLIKE VALUES -/
theorem zcnt_or {A : Nat → Bool} {w : Nat} : ∀ {B : Nat}, w < B → zcnt (fun v => A v || decide (v = w)) B = zcnt A B + (if A w = true then 0 else 1)
  | 0, h => by omega
  | B + 1, h => by
    have un : ∀ p : Nat → Bool, zcnt p (B + 1) = zcnt p B + (if p B = true then 1 else 0) := fun _ => rfl
    rw [un, un]
    rcases Nat.lt_or_ge w B with z | z
    · rw [zcnt_or z]
      have : decide (B = w) = false := decide_eq_false (by omega)
      rw [this, Bool.or_false]
      omega
    · have e : B = w := by omega
      subst e
      have c : zcnt (fun v => A v || decide (v = B)) B = zcnt A B := zcnt_congr (fun v hv => by rw [decide_eq_false (show ¬ v = B by omega), Bool.or_false])
      rw [c, decide_eq_true rfl, Bool.or_true]
      cases A B with
      | true => simp
      | false => simp
/-- the unlike values of those below n for which q holds -/
def zun (B : Nat) (q : Nat → Bool) (f : Nat → Int) (n : Nat) : Nat := zcnt (fun v => zany (fun i => q i && decide (f i = (v : Int))) n) B
theorem zun_s {B : Nat} {q : Nat → Bool} {f : Nat → Int} {n : Nat} (hf : q n = true → 0 ≤ f n ∧ f n < B) : zun B q f (n + 1) = zun B q f n + (if q n = true ∧ ∀ i, i < n → q i = true → f i ≠ f n then 1 else 0) := by
  unfold zun
  have un : ∀ (p : Nat → Bool), zany p (n + 1) = (zany p n || p n) := fun _ => rfl
  by_cases hq : q n = true
  · have h := hf hq
    have e : zcnt (fun v => zany (fun i => q i && decide (f i = (v : Int))) (n + 1)) B = zcnt (fun v => zany (fun i => q i && decide (f i = (v : Int))) n || decide (v = (f n).toNat)) B := zcnt_congr (fun v _ => by
      rw [un, hq, Bool.true_and]
      have : (f n = (v : Int)) ↔ (v = (f n).toNat) := by omega
      rw [decide_eq_decide.mpr this])
    rw [e, zcnt_or (show (f n).toNat < B by omega)]
    congr 1
    by_cases z : ∀ i, i < n → q i = true → f i ≠ f n
    · have hA : ¬ zany (fun i => q i && decide (f i = ((f n).toNat : Int))) n = true := by
        intro y
        obtain ⟨i, hi, y⟩ := zany_iff.mp y
        rw [Bool.and_eq_true] at y
        have := of_decide_eq_true y.2
        exact z i hi y.1 (by omega)
      have hC : q n = true ∧ ∀ i, i < n → q i = true → f i ≠ f n := ⟨hq, z⟩
      rw [if_neg hA, if_pos hC]
    · have hA : zany (fun i => q i && decide (f i = ((f n).toNat : Int))) n = true := by
        have ⟨i, hz⟩ := Classical.not_forall.mp z
        have ⟨hi, hz⟩ := Classical.not_imp.mp hz
        have ⟨hqi, hz⟩ := Classical.not_imp.mp hz
        refine zany_iff.mpr ⟨i, hi, ?_⟩
        rw [hqi, Bool.true_and]
        exact decide_eq_true (by have := Classical.not_not.mp hz; omega)
      have hC : ¬ (q n = true ∧ ∀ i, i < n → q i = true → f i ≠ f n) := fun y => z y.2
      rw [if_pos hA, if_neg hC]
  · have e : ∀ v : Nat, zany (fun i => q i && decide (f i = (v : Int))) (n + 1) = zany (fun i => q i && decide (f i = (v : Int))) n := fun v => by
      rw [un]
      cases hh : q n with
      | false => rw [Bool.false_and, Bool.or_false]
      | true => exact absurd hh hq
    have hC : ¬ (q n = true ∧ ∀ i, i < n → q i = true → f i ≠ f n) := fun y => hq y.1
    rw [if_neg hC, Nat.add_zero]
    exact zcnt_congr (fun v _ => e v)
theorem zun_same {B : Nat} {q q' : Nat → Bool} {f f' : Nat → Int} {n n' : Nat} (h : ∀ v : Nat, (∃ i, i < n ∧ q i = true ∧ f i = (v : Int)) ↔ (∃ i, i < n' ∧ q' i = true ∧ f' i = (v : Int))) : zun B q f n = zun B q' f' n' := by
  unfold zun
  refine zcnt_congr (fun v _ => ?_)
  rw [Bool.eq_iff_iff, zany_iff, zany_iff]
  have := h v
  simp only [Bool.and_eq_true, decide_eq_true_eq]
  exact this
theorem zun_0 (B : Nat) (q : Nat → Bool) (f : Nat → Int) : zun B q f 0 = 0 := by
  unfold zun
  induction B with
  | zero => rfl
  | succ B ih => show zcnt _ B + _ = 0; rw [ih]; rfl
/-- counted in a sorted row -/
theorem zun_sorted {B : Nat} {f : Nat → Int} {N : Nat} (hs : zGs f 1 N) (hf : ∀ i, i < N → 0 ≤ f i ∧ f i < B) : ∀ n, n ≤ N → zcnt (fun i => decide (i = 0 ∨ f i ≠ f (i - 1))) n = zun B (fun _ => true) f n
  | 0, _ => (zun_0 _ _ _).symm
  | n + 1, hn => by
    have mono : ∀ j i, i + j < N → f i ≤ f (i + j) := by
      intro j
      induction j with
      | zero => intro i _; exact Int.le_refl _
      | succ j ih =>
        intro i hi
        have a := ih i (by omega)
        have b := hs (i + (j + 1)) (by omega) hi
        rw [show i + (j + 1) - 1 = i + j by omega] at b
        omega
    rw [zun_s (fun _ => hf n (by omega)), ← zun_sorted hs hf n (by omega)]
    show zcnt _ n + _ = _
    congr 1
    by_cases z : n = 0 ∨ f n ≠ f (n - 1)
    · have hC : (fun _ : Nat => true) n = true ∧ ∀ i, i < n → (fun _ : Nat => true) i = true → f i ≠ f n := ⟨rfl, fun i hi _ e => by
        have a := mono (n - 1 - i) i (by omega)
        rw [show i + (n - 1 - i) = n - 1 by omega] at a
        have b := hs n (by omega) (by omega)
        rcases z with z | z
        · omega
        · omega⟩
      rw [if_pos (decide_eq_true z), if_pos hC]
    · have hC : ¬ ((fun _ : Nat => true) n = true ∧ ∀ i, i < n → (fun _ : Nat => true) i = true → f i ≠ f n) := fun y => y.2 (n - 1) (by omega) rfl (by omega)
      rw [if_neg (fun y => z (of_decide_eq_true y)), if_neg hC]
/-- the row holds what is played from f on, below t -/
def zPld (p : Nat → Int) (f t : Nat) (g : Nat → Int) (N : Nat) : Prop := (∀ j, j < N → 0 ≤ g j ∧ g j ≤ 1000000000) ∧ ∀ v : Int, (∃ i, i < N ∧ g i = v) ↔ (∃ s, f ≤ s ∧ s < t ∧ p s = v ∧ v ≠ -1)
theorem zPld_no {p : Nat → Int} {f t N : Nat} {g : Nat → Int} (h : zPld p f t g N) (hp : p t = -1) : zPld p f (t + 1) g N := ⟨h.1, fun v => by
  rw [h.2 v]
  constructor
  · rintro ⟨s, h1, h2, h3, h4⟩; exact ⟨s, h1, by omega, h3, h4⟩
  · rintro ⟨s, h1, h2, h3, h4⟩
    refine ⟨s, h1, ?_, h3, h4⟩
    by_cases e : s = t
    · subst e; omega
    · omega⟩
theorem zPld_new {p : Nat → Int} {f t N : Nat} {g : Nat → Int} (h : zPld p f t g N) (hft : f ≤ t) (hp : 0 ≤ p t ∧ p t ≤ 1000000000) : zPld p f (t + 1) (zu g N (p t)) (N + 1) := by
  refine ⟨fun j hj => ?_, fun v => ?_⟩
  · by_cases e : j = N
    · rw [e, zu_eq]; exact hp
    · rw [zu_ne e]; exact h.1 j (by omega)
  · constructor
    · rintro ⟨i, hi, e⟩
      by_cases e2 : i = N
      · rw [e2, zu_eq] at e
        exact ⟨t, hft, by omega, e, by omega⟩
      · rw [zu_ne e2] at e
        obtain ⟨s, h1, h2, h3⟩ := (h.2 v).mp ⟨i, by omega, e⟩
        exact ⟨s, h1, by omega, h3⟩
    · rintro ⟨s, h1, h2, h3, h4⟩
      by_cases e : s = t
      · subst e
        exact ⟨N, by omega, by rw [zu_eq]; exact h3⟩
      · obtain ⟨i, hi, e2⟩ := (h.2 v).mpr ⟨s, h1, by omega, h3, h4⟩
        exact ⟨i, by omega, by rw [zu_ne (by omega)]; exact e2⟩
/-- how many unlike locals are played from f to l -/
noncomputable def zunp (p : Nat → Int) (f l : Nat) : Nat := zun 1000000001 (fun s => decide (f ≤ s ∧ p s ≠ -1)) p (l + 1)
theorem zPlage {S : zSt} {k : Nat} {t : Nat} {a b : Int} (h1 : a = zv S t 1 k) (h2 : b = zv S t 2 k) : (if a = 2 then b else -1) = zplay S k t := by unfold zplay; rw [h1, h2]
/-- only the stretch's row and the moment now have changed -/
def zFq (σ τ : zSt) : Prop := (∀ a, (a < 34 ∨ 42 ≤ a) → a ≠ 94 → τ a = σ a) ∧ zOn τ
theorem zFq.at {σ τ τ1 : zSt} {t : Int} (h : zFq σ τ) (hA : zAtP τ τ1 t) : zFq σ τ1 ∧ τ1 94 = τ 94 := ⟨⟨fun a ha h93 => by rw [hA.1 a ha]; exact h.1 a ha h93, hA.on h.2⟩, hA.1 94 (by decide)⟩
theorem zFq.v {σ τ : zSt} (h : zFq σ τ) (ho : zOn σ) (t : Int) : zv (zSv τ 1) t = zv (zSv σ 1) t := zv_low (fun a ha => h.1 a (Or.inl ha) (by omega)) ho t
theorem zFq.put {σ τ : zSt} {j : Nat} {v : Int} (h : zFq σ τ) : zFq σ (zs τ 94 j v) := ⟨fun a ha h93 => by rw [zs_other h93]; exact h.1 a ha h93, zOn_eq (fun a ha => zs_other (by omega)) h.2⟩
theorem w2_Sr_unlikeLocals {G : zG} {X : zX} {n : Nat} {σ τ : zSt} {k f l N : Nat} (hn : 189 ≤ n) (ho : zOn σ) (hk : k < (σ 1 0).toNat) (hfl : l ≤ 1999) (hF : zFq σ τ) (hs : zGs (τ 94) 1 N) (hr : ∀ j, j < N → 0 ≤ τ 94 j ∧ τ 94 j ≤ 1000000000) (hN : N ≤ 2000) (hu : zun 1000000001 (fun _ => true) (τ 94) N = zunp (zplay (zSv σ 1) k) f l) : ∀ (m : Nat) (i : Nat) (x5 x6 : Int), x6 = (i : Int) → x5 = (zcnt (fun i => decide (i = 0 ∨ τ 94 i ≠ τ 94 (i - 1))) i : Int) → i ≤ N → N < i + m → Go G X m_Sr_unlikeLocals (5, 0, 0, 0, 0) n SH τ 73 [(0, vr G 93), (1, vi k), (2, vi (f : Int)), (3, vi (l : Int)), (4, vi (N : Int)), (5, vi x5), (6, vi x6)] [] (zI n SH (fun a σ' => zFq σ σ' ∧ a = (zunp (zplay (zSv σ 1) k) f l : Int))) := by
  intro m
  induction m with
  | zero => intro i x5 x6 e6 e5 hi hm; exact absurd hm (by omega)
  | succ m ih =>
    intro i x5 x6 e6 e5 hi hm
    subst e6
    have zc := zcnt_le (fun i => decide (i = 0 ∨ τ 94 i ≠ τ 94 (i - 1))) i
    refine g_iload (i := 6) (by decide +kernel) rfl ?_
    refine g_iload (i := 4) (by decide +kernel) rfl ?_
    refine g_icmp_ge (off := 36) (tgt := 113) (by decide +kernel) (by decide) ⟨by omega, by omega⟩ ⟨by omega, by omega⟩ (fun h77 => ?_) (fun h77 => ?_)
    · refine g_iload (i := 5) (by decide +kernel) rfl ?_
      refine g_retI (by decide +kernel) rfl (Or.inl rfl) ⟨by decide, by decide⟩ ?_
      refine ⟨hF, ?_⟩
      rw [e5, show i = N by omega, zun_sorted (B := 1000000001) hs (fun i hi => by have := hr i hi; omega) N (Nat.le_refl _), hu]
    · have r1 := hr i (by omega)
      refine g_iload (i := 6) (by decide +kernel) rfl ?_
      refine g_if_eq (off := 22) (tgt := 104) (by decide +kernel) (by decide) ⟨by omega, by omega⟩ (fun h82 => ?_) (fun h82 => ?_)
      · have e5 : x5 + 1 = (zcnt (fun i => decide (i = 0 ∨ τ 94 i ≠ τ 94 (i - 1))) (i + 1) : Int) := by rw [zcnt_t (decide_eq_true (Or.inl (by omega))), e5]; push_cast; rfl
        refine g_iinc (i := 5) (b := 1) (L' := [(0, _), (1, _), (2, _), (3, _), (4, _), (5, _), (6, _)]) (by decide +kernel) rfl rfl rfl ?_
        refine g_iinc (i := 6) (b := 1) (L' := [(0, _), (1, _), (2, _), (3, _), (4, _), (5, _), (6, _)]) (by decide +kernel) rfl rfl rfl ?_
        refine g_goto (off := -37) (tgt := 73) (by decide +kernel) (by decide) ?_
        exact ih (i + 1) _ _ (by push_cast; rfl) e5 (by omega) (by omega)
      · have r2 := hr (i - 1) (by omega)
        refine g_aload_n (i := 0) (by decide +kernel) rfl ?_
        refine g_getr f_Sr_9 (by decide +kernel) (by omega) rfl rfl ?_
        refine g_iload (i := 6) (by decide +kernel) rfl ?_
        refine g_iald (j := i) (by decide +kernel) (by omega) rfl rfl (by omega) (by decide) ?_
        refine g_aload_n (i := 0) (by decide +kernel) rfl ?_
        refine g_getr f_Sr_9 (by decide +kernel) (by omega) rfl rfl ?_
        refine g_iload (i := 6) (by decide +kernel) rfl ?_
        refine g_iconst (a := 1) (by decide +kernel) ?_
        refine g_isub (by decide +kernel) ?_
        refine g_iald (j := (i - 1)) (by decide +kernel) (by omega) rfl (by omega) (by omega) (by decide) ?_
        refine g_icmp_eq (off := 6) (tgt := 107) (by decide +kernel) (by decide) ⟨by omega, by omega⟩ ⟨by omega, by omega⟩ (fun h101 => ?_) (fun h101 => ?_)
        · have e5 : x5 = (zcnt (fun i => decide (i = 0 ∨ τ 94 i ≠ τ 94 (i - 1))) (i + 1) : Int) := by rw [zcnt_f (decide_eq_false (fun q => by rcases q with q | q; omega; exact q h101)), e5]
          refine g_iinc (i := 6) (b := 1) (L' := [(0, _), (1, _), (2, _), (3, _), (4, _), (5, _), (6, _)]) (by decide +kernel) rfl rfl rfl ?_
          refine g_goto (off := -37) (tgt := 73) (by decide +kernel) (by decide) ?_
          exact ih (i + 1) _ _ (by push_cast; rfl) e5 (by omega) (by omega)
        · have e5 : x5 + 1 = (zcnt (fun i => decide (i = 0 ∨ τ 94 i ≠ τ 94 (i - 1))) (i + 1) : Int) := by rw [zcnt_t (decide_eq_true (Or.inr h101)), e5]; push_cast; rfl
          refine g_iinc (i := 5) (b := 1) (L' := [(0, _), (1, _), (2, _), (3, _), (4, _), (5, _), (6, _)]) (by decide +kernel) rfl rfl rfl ?_
          refine g_iinc (i := 6) (b := 1) (L' := [(0, _), (1, _), (2, _), (3, _), (4, _), (5, _), (6, _)]) (by decide +kernel) rfl rfl rfl ?_
          refine g_goto (off := -37) (tgt := 73) (by decide +kernel) (by decide) ?_
          exact ih (i + 1) _ _ (by push_cast; rfl) e5 (by omega) (by omega)
theorem w_Sr_unlikeLocals {G : zG} {X : zX} {n : Nat} {σ : zSt} {k f l : Nat} (hn : 189 ≤ n) (ho : zOn σ) (hk : k < (σ 1 0).toNat) (hfl : l ≤ 1999) (hff : f ≤ l + 1) : ∀ (m : Nat) (t N : Nat) (x4 x5 : Int) (τ : zSt), x5 = (t : Int) → x4 = (N : Int) → zFq σ τ → zPld (zplay (zSv σ 1) k) f t (τ 94) N → (f ≤ t ∧ t ≤ l + 1 ∧ N + f ≤ t) → l + 1 < t + m → Go G X m_Sr_unlikeLocals (5, 0, 0, 0, 0) n SH τ 6 [(0, vr G 93), (1, vi k), (2, vi (f : Int)), (3, vi (l : Int)), (4, vi x4), (5, vi x5)] [] (zI n SH (fun a σ' => zFq σ σ' ∧ a = (zunp (zplay (zSv σ 1) k) f l : Int))) := by
  intro m
  induction m with
  | zero => intro t N x4 x5 τ e5 e4 hF hP hi hm; exact absurd hm (by omega)
  | succ m ih =>
    intro t N x4 x5 τ e5 e4 hF hP hi hm
    subst e5
    subst e4
    have hc := ho.1.1
    have k12 : k < 12 := by omega
    refine g_iload (i := 5) (by decide +kernel) rfl ?_
    refine g_iload_n (i := 3) (by decide +kernel) rfl ?_
    refine g_icmp_gt (off := 52) (tgt := 61) (by decide +kernel) (by decide) ⟨by omega, by omega⟩ ⟨by omega, by omega⟩ (fun h9 => ?_) (fun h9 => ?_)
    · refine g_aload_n (i := 0) (by decide +kernel) rfl ?_
      refine g_iload (i := 4) (by decide +kernel) rfl ?_
      refine g_cVV (st := []) (c_Sr_sortRow (N := N) hn (by omega) (fun j hj => by have := hP.1 j hj; exact ⟨by omega, by omega⟩)) k_Sr_sortRow l_Sr_48 (by decide +kernel) (by omega) rfl rfl rfl rfl (Nat.le_of_ble_eq_true rfl) (by decide) ⟨by decide, by decide⟩ ?_
      rintro τ2 ⟨s1, s2⟩
      refine g_iconst (a := 0) (by decide +kernel) ?_
      refine g_istore (i := 5) (L' := [(0, _), (1, _), (2, _), (3, _), (4, _), (5, _)]) (by decide +kernel) rfl rfl ?_
      refine g_iconst (a := 0) (by decide +kernel) ?_
      refine g_istore (i := 6) (L' := [(0, _), (1, _), (2, _), (3, _), (4, _), (5, _), (6, _)]) (by decide +kernel) rfl rfl ?_
      have F2 : zFq σ τ2 := ⟨fun a ha h94 => by rw [s1.1 a h94]; exact hF.1 a ha h94, zOn_eq (fun a ha => s1.1 a (by omega)) hF.2⟩
      refine w2_Sr_unlikeLocals hn ho hk hfl F2 s2 (fun j hj => ?_) (by omega) ?_ (N + 1) 0 _ _ rfl rfl (by omega) (by omega)
      · obtain ⟨i, h1, h2⟩ := (s1.2.1 (τ2 94 j)).mp ⟨j, hj, rfl⟩
        rw [← h2]
        exact hP.1 i h1
      · refine zun_same (fun v => ?_)
        have a := s1.2.1 (v : Int)
        have b := hP.2 (v : Int)
        constructor
        · rintro ⟨i, h1, -, h2⟩
          obtain ⟨s, q1, q2, q3, q4⟩ := b.mp (a.mp ⟨i, h1, h2⟩)
          exact ⟨s, by omega, decide_eq_true ⟨q1, by rw [q3]; exact q4⟩, q3⟩
        · rintro ⟨s, q1, q2, q3⟩
          have q2 := of_decide_eq_true q2
          obtain ⟨i, h1, h2⟩ := a.mpr (b.mpr ⟨s, q2.1, by omega, q3, by rw [← q3]; exact q2.2⟩)
          exact ⟨i, h1, rfl, h2⟩
    · refine g_iload (i := 4) (by decide +kernel) rfl ?_
      refine g_aload_n (i := 0) (by decide +kernel) rfl ?_
      refine g_getr f_Sr_9 (by decide +kernel) (by omega) rfl rfl ?_
      refine g_alen (by decide +kernel) (by omega) rfl (by decide) ?_
      refine g_icmp_ge (off := 42) (tgt := 61) (by decide +kernel) (by decide) ⟨by omega, by omega⟩ ⟨by decide, by decide⟩ (fun h19 => ?_) (fun h19 => ?_)
      · exact absurd h19 (by show ¬ (2000 : Int) ≤ (N : Int); omega)
      · refine g_aload_n (i := 0) (by decide +kernel) rfl ?_
        refine g_getr f_Sr_15 (by decide +kernel) (by omega) rfl rfl ?_
        refine g_iload (i := 5) (by decide +kernel) rfl ?_
        refine g_cVO (st := []) (c_Sg_at (t := (t : Int)) hn hF.2 ⟨by omega, by omega⟩) k_Sg_at l_Sr_30 (by decide +kernel) (by omega) rfl rfl rfl rfl (Nat.le_of_ble_eq_true rfl) (by decide) ⟨by decide, by decide⟩ ?_
        rintro q τ1 ⟨eq, hA⟩
        subst eq
        have F1 := hF.at hA
        refine g_iload_n (i := 1) (by decide +kernel) rfl ?_
        have kT : k < (τ 1 0).toNat := by rw [hF.1 1 (by decide) (by decide)]; exact hk
        have mr := F1.1.2.mr.2 k k12
        have ep : (if τ1 35 k = 2 then τ1 36 k else -1) = (zplay (zSv σ 1) k) t := zPlage (by rw [← hF.v ho]; exact hA.2.2.1 k kT 1 (by decide) (by decide)) (by rw [← hF.v ho]; exact hA.2.2.1 k kT 2 (by decide) (by decide))
        have m2 : -1 ≤ τ1 36 k ∧ τ1 36 k ≤ 1000000000 := mr.2.1
        refine g_cVI (st := []) (c_Mo_playedLocal (b := 34) (k := k) hn mo_34 k12 mr.1) k_Mo_playedLocal l_Sr_44 (by decide +kernel) (by omega) rfl rfl rfl rfl (Nat.le_of_ble_eq_true rfl) (by decide) ⟨by decide, by decide⟩ ?_
        rintro a σ1 ⟨ea, hσ⟩
        obtain rfl := hσ.symm
        have ea : a = (zplay (zSv σ 1) k) t := by rw [ea]; exact ep
        subst ea
        have h7 : -1 ≤ (zplay (zSv σ 1) k) t ∧ (zplay (zSv σ 1) k) t ≤ 1000000000 := by
          rw [← ep]
          split
          · exact m2
          · exact ⟨by decide, by decide⟩
        have P1 : zPld (zplay (zSv σ 1) k) f t (τ1 94) N := by rw [F1.2]; exact hP
        refine g_istore (i := 6) (L' := [(0, _), (1, _), (2, _), (3, _), (4, _), (5, _), (6, _)]) (by decide +kernel) rfl rfl ?_
        refine g_iload (i := 6) (by decide +kernel) rfl ?_
        refine g_iconst (a := -1) (by decide +kernel) ?_
        refine g_icmp_eq (off := 15) (tgt := 55) (by decide +kernel) (by decide) ⟨by omega, by omega⟩ ⟨by omega, by omega⟩ (fun h40 => ?_) (fun h40 => ?_)
        · refine g_iinc (i := 5) (b := 1) (L' := [(0, _), (1, _), (2, _), (3, _), (4, _), (5, _), (6, _)]) (by decide +kernel) rfl rfl rfl ?_
          refine g_goto (off := -52) (tgt := 6) (by decide +kernel) (by decide) ?_
          first
            | (have hz : (zplay (zSv σ 1) k) t = -1 := h40
               exact g_less [0, 1, 2, 3, 4, 5] rfl (ih (t + 1) N _ _ _ (by push_cast; rfl) rfl F1.1 (zPld_no P1 hz) (by omega) (by omega)))
            | (refine g_less [0, 1, 2, 3, 4, 5] rfl (ih (t + 1) (N + 1) _ _ _ (by push_cast; rfl) (by push_cast; rfl) F1.1.put ?_ (by omega) (by omega))
               rw [zs_row]
               exact zPld_new P1 hi.1 (by omega))
        · refine g_aload_n (i := 0) (by decide +kernel) rfl ?_
          refine g_getr f_Sr_9 (by decide +kernel) (by omega) rfl rfl ?_
          refine g_iload (i := 4) (by decide +kernel) rfl ?_
          refine g_iload (i := 6) (by decide +kernel) rfl ?_
          refine g_iast (j := N) (by decide +kernel) (by omega) rfl rfl (by omega) (by decide) ?_
          refine g_iinc (i := 4) (b := 1) (L' := [(0, _), (1, _), (2, _), (3, _), (4, _), (5, _), (6, _)]) (by decide +kernel) rfl rfl rfl ?_
          refine g_iinc (i := 5) (b := 1) (L' := [(0, _), (1, _), (2, _), (3, _), (4, _), (5, _), (6, _)]) (by decide +kernel) rfl rfl rfl ?_
          refine g_goto (off := -52) (tgt := 6) (by decide +kernel) (by decide) ?_
          first
            | (have hz : (zplay (zSv σ 1) k) t = -1 := h40
               exact g_less [0, 1, 2, 3, 4, 5] rfl (ih (t + 1) N _ _ _ (by push_cast; rfl) rfl F1.1 (zPld_no P1 hz) (by omega) (by omega)))
            | (refine g_less [0, 1, 2, 3, 4, 5] rfl (ih (t + 1) (N + 1) _ _ _ (by push_cast; rfl) (by push_cast; rfl) F1.1.put ?_ (by omega) (by omega))
               rw [zs_row]
               exact zPld_new P1 hi.1 (by omega))
theorem c_Sr_unlikeLocals {G : zG} {n : Nat} {σ : zSt} {k f l : Nat} (hn : 189 ≤ n) (ho : zOn σ) (hk : k < (σ 1 0).toNat) (hfl : l ≤ 1999) (hff : f ≤ l + 1) : Gm G y_Sr_unlikeLocals m_Sr_unlikeLocals 5 0 0 [vr G 93, vi k, vi (f : Int), vi (l : Int)] n SH σ (zI n SH (fun a σ' => zFq σ σ' ∧ a = (zunp (zplay (zSv σ 1) k) f l : Int))) := by
  refine g_enter (L := [(0, _), (1, _), (2, _), (3, _)]) (by decide) rfl rfl rfl (Nat.le_of_ble_eq_true rfl) (fun X => ?_)
  refine g_iconst (a := 0) (by decide +kernel) ?_
  refine g_istore (i := 4) (L' := [(0, _), (1, _), (2, _), (3, _), (4, _)]) (by decide +kernel) rfl rfl ?_
  refine g_iload_n (i := 2) (by decide +kernel) rfl ?_
  refine g_istore (i := 5) (L' := [(0, _), (1, _), (2, _), (3, _), (4, _), (5, _)]) (by decide +kernel) rfl rfl ?_
  refine w_Sr_unlikeLocals hn ho hk hfl hff (l + 2) f 0 _ _ σ rfl rfl ⟨fun _ _ _ => rfl, ho⟩ ⟨fun j hj => by omega, fun v => ⟨?_, ?_⟩⟩ (by omega) (by omega)
  · rintro ⟨i, h1, -⟩; omega
  · rintro ⟨s, h1, h2, -⟩; omega
