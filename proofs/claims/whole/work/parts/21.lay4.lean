/-! HOW LONG AT MOST: what lies within a clip, all together -/
def zsum (p : Nat → Bool) (f : Nat → Int) : Nat → Int
  | 0 => 0
  | n + 1 => zsum p f n + (if p n = true then f n else 0)
theorem zsum_s (p : Nat → Bool) (f : Nat → Int) (n : Nat) : zsum p f (n + 1) = zsum p f n + (if p n = true then f n else 0) := rfl
theorem zsum_congr {p p' : Nat → Bool} {f f' : Nat → Int} : ∀ {n : Nat}, (∀ j, j < n → p j = p' j) → (∀ j, j < n → p j = true → f j = f' j) → zsum p f n = zsum p' f' n
  | 0, _, _ => rfl
  | n + 1, h, g => by
    rw [zsum_s, zsum_s, zsum_congr (fun j hj => h j (by omega)) (fun j hj => g j (by omega)), h n (by omega)]
    cases hp : p' n with
    | false => rfl
    | true => rw [if_pos rfl, if_pos rfl, g n (by omega) (by rw [h n (by omega)]; exact hp)]
theorem zsum_mono {p p' : Nat → Bool} {f : Nat → Int} : ∀ {n : Nat}, (∀ j, j < n → p j = true → p' j = true) → (∀ j, j < n → p' j = true → 0 ≤ f j) → zsum p f n ≤ zsum p' f n
  | 0, _, _ => Int.le_refl 0
  | n + 1, h, g => by
    have a := zsum_mono (f := f) (fun j hj => h j (by omega)) (fun j hj => g j (by omega)) (n := n)
    rw [zsum_s, zsum_s]
    cases hp : p n with
    | true => rw [h n (by omega) hp, if_pos rfl]; omega
    | false =>
      cases hp' : p' n with
      | false => simp; exact a
      | true => have := g n (by omega) hp'; simp; omega
theorem zsum_nonneg {p : Nat → Bool} {f : Nat → Int} : ∀ {n : Nat}, (∀ j, j < n → p j = true → 0 ≤ f j) → 0 ≤ zsum p f n
  | 0, _ => Int.le_refl 0
  | n + 1, g => by
    have a := zsum_nonneg (f := f) (fun j hj => g j (by omega)) (n := n)
    rw [zsum_s]
    split
    · have := g n (by omega) (by assumption); omega
    · omega
theorem zsum_insert {p p' : Nat → Bool} {f : Nat → Int} {k : Nat} (hk : p k = false) (hk' : p' k = true) : ∀ {n : Nat}, k < n → (∀ j, j < n → p j = true → p' j = true) → (∀ j, j < n → p' j = true → 0 ≤ f j) → zsum p f n + f k ≤ zsum p' f n
  | 0, h0, _, _ => by omega
  | n + 1, h0, h, g => by
    rw [zsum_s, zsum_s]
    rcases Nat.lt_or_ge k n with z | z
    · have a := zsum_insert hk hk' z (fun j hj => h j (by omega)) (fun j hj => g j (by omega))
      cases hp : p n with
      | true => rw [h n (by omega) hp, if_pos rfl]; omega
      | false =>
        cases hp' : p' n with
        | false => simp; exact a
        | true => have := g n (by omega) hp'; simp; omega
    · have e : n = k := by omega
      subst e
      have a := zsum_mono (f := f) (fun j hj => h j (by omega)) (fun j hj => g j (by omega)) (n := n)
      rw [hk, hk']; simp; exact a
theorem zsum_add {p q r : Nat → Bool} {f : Nat → Int} : ∀ {n : Nat}, (∀ j, j < n → r j = (p j || q j) ∧ (p j && q j) = false) → zsum r f n = zsum p f n + zsum q f n
  | 0, _ => rfl
  | n + 1, h => by
    rw [zsum_s, zsum_s, zsum_s, zsum_add (fun j hj => h j (by omega)) (n := n)]
    have := h n (by omega)
    rw [this.1]
    cases hp : p n with
    | true =>
      have h2 := this.2
      rw [hp] at h2
      simp at h2
      rw [h2]; simp; omega
    | false => cases hq : q n <;> simp <;> omega
theorem zsum_mul {p : Nat → Bool} {f : Nat → Int} (c : Int) : ∀ {n : Nat}, zsum p (fun j => f j * c) n = zsum p f n * c
  | 0 => by simp [zsum]
  | n + 1 => by
    rw [zsum_s, zsum_s, zsum_mul c, Int.add_mul]
    split <;> simp
/-- how much room a clip takes -/
def zF (S : zSt) (ac : Nat → Int) (j : Nat) : Int := S 6 j + ac j
def zCS (S : zSt) (ac : Nat → Int) (q : Int) : Int := zsum (fun j => decide (S 2 j = q)) (zF S ac) (zN S)
theorem zEn_le {S : zSt} {ac : Nat → Int} {q : Nat} (h0 : ∀ j, j < zN S → S 2 j = q → 0 ≤ zF S ac j) : ∀ p, zEn S ac q p ≤ zsum (fun j => decide (S 2 j = q ∧ S 3 j < (p : Int))) (zF S ac) (zN S)
  | 0 => by
    have := zsum_nonneg (p := fun j => decide (S 2 j = (q : Int) ∧ S 3 j < ((0 : Nat) : Int))) (f := zF S ac) (n := zN S) (fun j hj hp => h0 j hj (of_decide_eq_true hp).1)
    exact this
  | p + 1 => by
    have a := zEn_le h0 p
    rw [zEn_s]
    have hm : ∀ j, j < zN S → decide (S 2 j = (q : Int) ∧ S 3 j < (p : Int)) = true → decide (S 2 j = (q : Int) ∧ S 3 j < ((p + 1 : Nat) : Int)) = true := fun j _ h => decide_eq_true (by have := of_decide_eq_true h; omega)
    have hn : ∀ j, j < zN S → decide (S 2 j = (q : Int) ∧ S 3 j < ((p + 1 : Nat) : Int)) = true → 0 ≤ zF S ac j := fun j hj h => h0 j hj (of_decide_eq_true h).1
    split
    · exact Int.le_trans a (zsum_mono hm hn)
    · next hc =>
      have sp : (zch S q p = -1 ∧ ∀ k, k < zN S → decide (S 2 k = (q : Int) ∧ S 3 k = (p : Int)) = false) ∨ ∃ i : Nat, zch S q p = (i : Int) ∧ i < zN S ∧ decide (S 2 i = (q : Int) ∧ S 3 i = (p : Int)) = true ∧ ∀ k, k < i → decide (S 2 k = (q : Int) ∧ S 3 k = (p : Int)) = false := zfst_spec
      obtain ⟨i, e1, e2, e3, -⟩ := sp.resolve_left (fun z => hc z.1)
      have e3 := of_decide_eq_true e3
      rw [e1, Int.toNat_natCast]
      have b := zsum_insert (f := zF S ac) (k := i) (p := fun j => decide (S 2 j = (q : Int) ∧ S 3 j < (p : Int))) (p' := fun j => decide (S 2 j = (q : Int) ∧ S 3 j < ((p + 1 : Nat) : Int))) (decide_eq_false (by omega)) (decide_eq_true (by omega)) e2 hm hn
      unfold zF at a b ⊢
      omega
theorem zEn_le' {S : zSt} {ac : Nat → Int} {q : Nat} (h0 : ∀ j, j < zN S → S 2 j = q → 0 ≤ zF S ac j) (p : Nat) : zEn S ac q p ≤ zCS S ac q := Int.le_trans (zEn_le h0 p) (zsum_mono (fun j _ h => decide_eq_true (of_decide_eq_true h).1) (fun j hj h => h0 j hj (of_decide_eq_true h)))
theorem zEn_0 {S : zSt} {ac : Nat → Int} {q : Nat} (h0 : ∀ j, j < zN S → S 2 j = q → 0 ≤ zF S ac j) : ∀ p, 0 ≤ zEn S ac q p
  | 0 => Int.le_refl 0
  | p + 1 => by
    have a := zEn_0 h0 p
    rw [zEn_s]
    split
    · exact a
    · next hc =>
      have sp : (zch S q p = -1 ∧ ∀ k, k < zN S → decide (S 2 k = (q : Int) ∧ S 3 k = (p : Int)) = false) ∨ ∃ i : Nat, zch S q p = (i : Int) ∧ i < zN S ∧ decide (S 2 i = (q : Int) ∧ S 3 i = (p : Int)) = true ∧ ∀ k, k < i → decide (S 2 k = (q : Int) ∧ S 3 k = (p : Int)) = false := zfst_spec
      obtain ⟨i, e1, e2, e3, -⟩ := sp.resolve_left (fun z => hc z.1)
      have b := h0 i e2 (of_decide_eq_true e3).1
      rw [e1, Int.toNat_natCast]
      unfold zF at b
      omega
/-- the begin, by so many steps -/
def zBf (S : zSt) (ac : Nat → Int) (f k : Nat) : Int := zBw S ac f k + (if S 4 (zBs S f k) = 3 then 0 else S 6 (zBs S f k))
theorem zBf_s (S : zSt) (ac : Nat → Int) (f k : Nat) : zBf S ac (f + 1) k = if zby (S 4 k) = true then S 6 k + (if S 4 k = 2 then ac (S 5 k).toNat else 0) + zBf S ac f (S 5 k).toNat else (if S 4 k = 3 then 0 else S 6 k) := by
  unfold zBf
  rw [zBw_s, zBs_s]
  split
  · omega
  · omega
theorem zBf_12 (S : zSt) (ac : Nat → Int) (k : Nat) : zBf S ac 12 k = zBg S ac k := by
  unfold zBf zBg zOp
  simp only [decide_eq_true_eq]
/-- within q: the ways by others stay within, and don't come back -/
def zPar (S : zSt) (q : Nat) (r : Nat → Nat) : Prop := ∀ j, j < zN S → S 2 j = q → zby (S 4 j) = true → 0 ≤ S 5 j ∧ (S 5 j).toNat < zN S ∧ S 2 (S 5 j).toNat = q ∧ r (S 5 j).toNat < r j
theorem zBf_le {S : zSt} {ac : Nat → Int} {q : Nat} {r : Nat → Nat} (hp : zPar S q r) (h6 : ∀ j, j < zN S → 0 ≤ S 6 j) (ha : ∀ j, j < zN S → S 2 j = q → 0 ≤ ac j) : ∀ f k, k < zN S → S 2 k = q → 0 ≤ zBf S ac f k ∧ zBf S ac f k + ac k ≤ zsum (fun j => decide (S 2 j = q ∧ r j ≤ r k)) (zF S ac) (zN S) := by
  have h0 : ∀ j, j < zN S → S 2 j = q → 0 ≤ zF S ac j := fun j hj h => by have := h6 j hj; have := ha j hj h; unfold zF; omega
  have own : ∀ k, k < zN S → S 2 k = q → zF S ac k ≤ zsum (fun j => decide (S 2 j = (q : Int) ∧ r j ≤ r k)) (zF S ac) (zN S) := by
    intro k hk hq
    have := zsum_insert (f := zF S ac) (k := k) (p := fun _ => false) (p' := fun j => decide (S 2 j = (q : Int) ∧ r j ≤ r k)) (n := zN S) rfl (decide_eq_true ⟨hq, Nat.le_refl _⟩) hk (fun j _ h => by cases h) (fun j hj h => h0 j hj (of_decide_eq_true h).1)
    have z : ∀ n, zsum (fun _ => false) (zF S ac) n = 0 := fun n => by induction n with
      | zero => rfl
      | succ n ih => rw [zsum_s, ih]; rfl
    rw [z] at this
    omega
  intro f
  induction f with
  | zero =>
    intro k hk hq
    have a := own k hk hq
    have b := h6 k hk
    unfold zBf zBw zBs
    rw [show zF S ac k = S 6 k + ac k from rfl] at a
    split <;> omega
  | succ f ih =>
    intro k hk hq
    have a := own k hk hq
    have b := h6 k hk
    rw [zBf_s]
    split
    · next hb =>
      obtain ⟨g1, g2, g3, g4⟩ := hp k hk hq hb
      have c := ih _ g2 g3
      have d := ha _ g2 g3
      have e := zsum_insert (f := zF S ac) (k := k) (p := fun j => decide (S 2 j = (q : Int) ∧ r j ≤ r (S 5 k).toNat)) (p' := fun j => decide (S 2 j = (q : Int) ∧ r j ≤ r k)) (n := zN S) (decide_eq_false (by omega)) (decide_eq_true ⟨hq, Nat.le_refl _⟩) hk (fun j _ h => decide_eq_true (by have := of_decide_eq_true h; omega)) (fun j hj h => h0 j hj (of_decide_eq_true h).1)
      unfold zF at e c ⊢
      split <;> omega
    · rw [show zF S ac k = S 6 k + ac k from rfl] at a
      split <;> omega
theorem zBg_le {S : zSt} {ac : Nat → Int} {q : Nat} {r : Nat → Nat} (hp : zPar S q r) (h6 : ∀ j, j < zN S → 0 ≤ S 6 j) (ha : ∀ j, j < zN S → S 2 j = q → 0 ≤ ac j) {k : Nat} (hk : k < zN S) (hq : S 2 k = q) : 0 ≤ zBg S ac k ∧ zBg S ac k + ac k ≤ zCS S ac q := by
  have a := zBf_le hp h6 ha 12 k hk hq
  rw [zBf_12] at a
  refine ⟨a.1, Int.le_trans a.2 (zsum_mono (fun j _ h => decide_eq_true (of_decide_eq_true h).1) (fun j hj h => ?_))⟩
  have := h6 j hj
  have := ha j hj (of_decide_eq_true h)
  unfold zF
  omega
/-! the bound -/
/-- how deep a clip lies, by what is around it -/
def zDp (S : zSt) (d : Nat → Nat) : Prop := ∀ k, k < zN S → d k ≤ 4 ∧ ∀ j, j < zN S → S 2 j = k → d j = d k + 1
/-- a clip is valid as far as its length goes -/
def zMk (S : zSt) (k : Nat) : Prop := (0 ≤ S 7 (9 * k) ∧ S 7 (9 * k) ≤ 999) ∧ (1 ≤ S 7 (9 * k + 1) ∧ S 7 (9 * k + 1) ≤ 4) ∧ (1 ≤ S 7 (9 * k + 2) ∧ S 7 (9 * k + 2) ≤ 9) ∧ (0 ≤ S 7 (9 * k + 3) ∧ S 7 (9 * k + 3) ≤ 999) ∧ (0 ≤ S 6 k ∧ S 6 k ≤ 999)
theorem zAc_le {S : zSt} {k : Nat} {si : Int} (h : zMk S k) (h0 : 0 ≤ si) : 0 ≤ zAc S si k ∧ zAc S si k ≤ 9 * si := by
  obtain ⟨h1, h2, h3, h4, h5⟩ := h
  have p : si * S 7 (9 * k + 2) ≤ si * 9 := Int.mul_le_mul_of_nonneg_left h3.2 h0
  have p0 : 0 ≤ si * S 7 (9 * k + 2) := Int.mul_nonneg h0 (by omega)
  have w0 : 0 ≤ zAcW S si k := Int.ediv_nonneg (by omega) (by omega)
  have w1 : zAcW S si k ≤ si * S 7 (9 * k + 2) := by
    unfold zAcW
    apply Int.le_of_lt_add_one
    apply Int.ediv_lt_of_lt_mul (by omega)
    rw [Int.add_mul]
    have : si * S 7 (9 * k + 2) * 1 ≤ si * S 7 (9 * k + 2) * S 7 (9 * k + 1) := Int.mul_le_mul_of_nonneg_left h2.1 p0
    omega
  unfold zAc
  split <;> omega
/-- what stands at the top of all from k on takes not too much room -/
def zTop (S : zSt) (ac : Nat → Int) (d : Nat → Nat) (k : Nat) : Int := zsum (fun j => decide (k ≤ j ∧ S 2 j < k)) (fun j => zF S ac j * 9 ^ d j) (zN S)
theorem zpow_le {m : Nat} (h : m ≤ 4) : (1 : Int) ≤ 9 ^ m ∧ (9 : Int) ^ m ≤ 6561 := by
  rcases (by omega : m = 0 ∨ m = 1 ∨ m = 2 ∨ m = 3 ∨ m = 4) with rfl | rfl | rfl | rfl | rfl <;> decide
theorem zTop_child {S : zSt} {ac : Nat → Int} {d : Nat → Nat} {k : Nat} (hd : zDp S d) (ht : ∀ j, j < zN S → S 2 j < j) (hk : k < zN S) (h0 : ∀ j, j < zN S → k < j → 0 ≤ zF S ac j) : zCS S ac k * (9 * 9 ^ d k) ≤ zTop S ac d (k + 1) := by
  have e : zCS S ac k * (9 * 9 ^ d k) = zsum (fun j => decide (S 2 j = (k : Int))) (fun j => zF S ac j * 9 ^ d j) (zN S) := by
    unfold zCS
    rw [← zsum_mul]
    refine zsum_congr (fun _ _ => rfl) (fun j hj h => ?_)
    rw [(hd k hk).2 j hj (of_decide_eq_true h), Int.pow_succ, Int.mul_comm (9 ^ d k) 9]
  rw [e]
  refine zsum_mono (fun j hj h => decide_eq_true ?_) (fun j hj h => ?_)
  · have := of_decide_eq_true h
    have := ht j hj
    omega
  · have := of_decide_eq_true h
    exact Int.mul_nonneg (h0 j hj (by omega)) (Int.le_trans (by decide) (zpow_le (hd j hj).1).1)
theorem zTop_step {S : zSt} {ac : Nat → Int} {d : Nat → Nat} {k : Nat} (hd : zDp S d) (ht : ∀ j, j < zN S → S 2 j < j) (hk : k < zN S) (hF : zF S ac k ≤ 9990 + 9 * zCS S ac k) (h0 : ∀ j, j < zN S → k ≤ j → 0 ≤ zF S ac j) (h : zTop S ac d (k + 1) ≤ 65544390 * ((zN S : Int) - (k + 1))) : zTop S ac d k ≤ 65544390 * ((zN S : Int) - k) := by
  obtain ⟨w1, w2⟩ := zpow_le (hd k hk).1
  have e : zCS S ac k * (9 * 9 ^ d k) = zsum (fun j => decide (S 2 j = (k : Int))) (fun j => zF S ac j * 9 ^ d j) (zN S) := by
    unfold zCS
    rw [← zsum_mul]
    refine zsum_congr (fun _ _ => rfl) (fun j hj h => ?_)
    rw [(hd k hk).2 j hj (of_decide_eq_true h), Int.pow_succ, Int.mul_comm (9 ^ d k) 9]
  -- those at the top from k + 1 on: within k, or not
  have s1 : zTop S ac d (k + 1) = zsum (fun j => decide (k + 1 ≤ j ∧ S 2 j < k)) (fun j => zF S ac j * 9 ^ d j) (zN S) + zsum (fun j => decide (S 2 j = (k : Int))) (fun j => zF S ac j * 9 ^ d j) (zN S) := by
    refine zsum_add (fun j hj => ?_)
    have := ht j hj
    constructor
    · rw [Bool.eq_iff_iff]
      simp only [Bool.or_eq_true, decide_eq_true_eq]
      omega
    · rw [Bool.and_eq_false_iff, decide_eq_false_iff_not, decide_eq_false_iff_not]
      omega
  have s2 : zTop S ac d k = zsum (fun j => decide (k + 1 ≤ j ∧ S 2 j < k)) (fun j => zF S ac j * 9 ^ d j) (zN S) + zsum (fun j => decide (j = k)) (fun j => zF S ac j * 9 ^ d j) (zN S) := by
    refine zsum_add (fun j hj => ?_)
    have := ht j hj
    constructor
    · rw [Bool.eq_iff_iff]
      simp only [Bool.or_eq_true, decide_eq_true_eq]
      omega
    · rw [Bool.and_eq_false_iff, decide_eq_false_iff_not, decide_eq_false_iff_not]
      omega
  have s3 : ∀ n, k < n → zsum (fun j => decide (j = k)) (fun j => zF S ac j * 9 ^ d j) n = zF S ac k * 9 ^ d k := by
    intro n
    induction n with
    | zero => intro h; omega
    | succ n ih =>
      intro h
      rw [zsum_s]
      rcases Nat.lt_or_ge k n with z | z
      · rw [ih z, decide_eq_false (by omega)]; simp
      · have e : n = k := by omega
        subst e
        rw [decide_eq_true rfl, if_pos rfl]
        have z : ∀ i, i ≤ n → zsum (fun j => decide (j = n)) (fun j => zF S ac j * 9 ^ d j) i = 0 := by
          intro i
          induction i with
          | zero => intro _; rfl
          | succ i ih2 => intro hi; rw [zsum_s, ih2 (by omega), decide_eq_false (by omega)]; rfl
        rw [z n (Nat.le_refl n)]; omega
  have m1 : zF S ac k * 9 ^ d k ≤ (9990 + 9 * zCS S ac k) * 9 ^ d k := Int.mul_le_mul_of_nonneg_right hF (by omega)
  have m2 : (9990 + 9 * zCS S ac k) * 9 ^ d k = 9990 * 9 ^ d k + zCS S ac k * (9 * 9 ^ d k) := by
    rw [Int.add_mul, Int.mul_assoc, Int.mul_comm (zCS S ac k), ← Int.mul_assoc, Int.mul_comm (zCS S ac k)]
  rw [s2, s3 _ hk]
  rw [s1] at h
  omega
