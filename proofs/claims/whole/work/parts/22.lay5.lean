/-! A SHOW THAT HOLDS TOGETHER -/
def zVal (S : zSt) (d r : Nat → Nat) : Prop :=
  (zN S ≤ 12 ∧ zDp S d) ∧
  (∀ k, k < zN S → S 2 k < k ∧ -1 ≤ S 2 k ∧ (k = 0 ↔ S 2 k = -1)) ∧
  (∀ k, k < zN S → zMk S k ∧ (0 ≤ S 1 k ∧ S 1 k ≤ 2) ∧ (0 ≤ S 4 k ∧ S 4 k ≤ 3) ∧ (0 < k → S 1 (S 2 k).toNat ≠ 0) ∧ (S 4 k ≠ 0 → 0 < k ∧ S 1 (S 2 k).toNat = 1)) ∧
  (∀ q, q < zN S → zPar S q r) ∧
  (∀ k, k < zN S → 0 ≤ S 3 k ∧ S 3 k < 12 ∧ zch S (S 2 k) (S 3 k) = k) ∧ (∀ (q : Int) (p p' : Nat), p ≤ p' → zch S q p = -1 → zch S q p' = -1)
theorem zVal.tree {S : zSt} {d r : Nat → Nat} (h : zVal S d r) {j : Nat} (hj : j < zN S) : S 2 j < j := (h.2.1 j hj).1
/-! what is reckoned of a clip asks only those with greater numbers -/
theorem zEn_congr {S : zSt} {ac ac' : Nat → Int} {q : Nat} (h : ∀ j, j < zN S → S 2 j = q → ac j = ac' j) : ∀ p, zEn S ac q p = zEn S ac' q p
  | 0 => rfl
  | p + 1 => by
    rw [zEn_s, zEn_s, zEn_congr h p]
    have sp : (zch S q p = -1 ∧ ∀ k, k < zN S → decide (S 2 k = (q : Int) ∧ S 3 k = (p : Int)) = false) ∨ ∃ i : Nat, zch S q p = (i : Int) ∧ i < zN S ∧ decide (S 2 i = (q : Int) ∧ S 3 i = (p : Int)) = true ∧ ∀ k, k < i → decide (S 2 k = (q : Int) ∧ S 3 k = (p : Int)) = false := zfst_spec
    rcases sp with ⟨e, -⟩ | ⟨i, e1, e2, e3, -⟩
    · rw [if_pos e, if_pos e]
    · rw [if_neg (by omega), if_neg (by omega), e1, Int.toNat_natCast, h i e2 (of_decide_eq_true e3).1]
theorem zBw_congr {S : zSt} {ac ac' : Nat → Int} {q : Nat} {r : Nat → Nat} (hp : zPar S q r) (h : ∀ j, j < zN S → S 2 j = q → ac j = ac' j) : ∀ f k, k < zN S → S 2 k = q → zBw S ac f k = zBw S ac' f k
  | 0, _, _, _ => rfl
  | f + 1, k, hk, hq => by
    rw [zBw_s, zBw_s]
    split
    · next hb =>
      obtain ⟨g1, g2, g3, -⟩ := hp k hk hq hb
      rw [zBw_congr hp h f _ g2 g3, h _ g2 g3]
    · rfl
theorem zBg_congr {S : zSt} {ac ac' : Nat → Int} {q : Nat} {r : Nat → Nat} (hp : zPar S q r) (h : ∀ j, j < zN S → S 2 j = q → ac j = ac' j) {k : Nat} (hk : k < zN S) (hq : S 2 k = q) : zBg S ac k = zBg S ac' k := by
  unfold zBg; rw [zBw_congr hp h 12 k hk hq]
theorem zMx_congr {S : zSt} {ac ac' : Nat → Int} {q : Nat} {r : Nat → Nat} (hp : zPar S q r) (h : ∀ j, j < zN S → S 2 j = q → ac j = ac' j) : ∀ i, i ≤ zN S → zMx S ac q i = zMx S ac' q i
  | 0, _ => rfl
  | i + 1, hi => by
    rw [zMx_s, zMx_s, zMx_congr hp h i (by omega)]
    split
    · next z => rw [zBg_congr hp h (by omega) z.2.1, h i (by omega) z.2.1]
    · rfl
theorem zSi_congr {S : zSt} {ac ac' : Nat → Int} {d r : Nat → Nat} (hv : zVal S d r) {k : Nat} (hk : k < zN S) (h : ∀ j, j < zN S → k < j → ac j = ac' j) : zSi S ac k = zSi S ac' k := by
  have hc : ∀ j, j < zN S → S 2 j = k → ac j = ac' j := fun j hj e => h j hj (by have := hv.tree hj; omega)
  unfold zSi
  rw [zEn_congr hc 12, zMx_congr (hv.2.2.2.1 k hk) hc _ (Nat.le_refl _)]
/-- one layout alone -/
theorem zLay_uniq {S : zSt} {d r : Nat → Nat} (hv : zVal S d r) {si ac si' ac' : Nat → Int} (h : zLay S si ac) (h' : zLay S si' ac') : ∀ k, k < zN S → si k = si' k ∧ ac k = ac' k := by
  have key : ∀ m k, zN S ≤ k + m → k < zN S → si k = si' k ∧ ac k = ac' k := by
    intro m
    induction m with
    | zero => intro k h1 h2; omega
    | succ m ih =>
      intro k h1 h2
      have e : si k = si' k := by
        rw [(h k h2).1, (h' k h2).1]
        exact zSi_congr hv h2 (fun j hj hkj => (ih j (by omega) hj).2)
      exact ⟨e, by rw [(h k h2).2, (h' k h2).2, e]⟩
  exact fun k hk => key (zN S) k (by omega) hk
/-- laid from i on -/
def zLayFrom (S : zSt) (d : Nat → Nat) (si ac : Nat → Int) (i : Nat) : Prop := (∀ k, i ≤ k → k < zN S → si k = zSi S ac k ∧ ac k = zAc S (si k) k ∧ 0 ≤ si k ∧ 0 ≤ ac k) ∧ zTop S ac d i ≤ 65544390 * ((zN S : Int) - i)
theorem zCS_le {S : zSt} {d r : Nat → Nat} {si ac : Nat → Int} {k : Nat} (hv : zVal S d r) (hk : k < zN S) (h : zLayFrom S d si ac (k + 1)) : 0 ≤ zCS S ac k ∧ zCS S ac k ≤ 80109810 := by
  have hF : ∀ j, j < zN S → k < j → 0 ≤ zF S ac j := fun j hj hkj => by
    have a := (hv.2.2.1 j hj).1.2.2.2.2
    have b := (h.1 j (by omega) hj).2.2.2
    unfold zF; omega
  have a := zTop_child hv.1.2 (fun j hj => hv.tree hj) hk hF
  have b := h.2
  obtain ⟨w1, w2⟩ := zpow_le (hv.1.2 k hk).1
  have c0 : 0 ≤ zCS S ac k := zsum_nonneg (fun j hj hp => hF j hj (by have := hv.tree hj; have := of_decide_eq_true hp; omega))
  have m : zCS S ac k * 9 ≤ zCS S ac k * (9 * 9 ^ d k) := Int.mul_le_mul_of_nonneg_left (by omega) c0
  have hN := hv.1.1
  refine ⟨c0, ?_⟩
  push_cast at b
  omega
theorem zSi_le {S : zSt} {d r : Nat → Nat} {si ac : Nat → Int} {k : Nat} (hv : zVal S d r) (hk : k < zN S) (h : zLayFrom S d si ac (k + 1)) : 0 ≤ zSi S ac k ∧ zSi S ac k ≤ 80109810 ∧ zSi S ac k ≤ 999 + zCS S ac k := by
  have c := zCS_le hv hk h
  have hA : ∀ j, j < zN S → S 2 j = k → 0 ≤ ac j := fun j hj e => (h.1 j (by have := hv.tree hj; omega) hj).2.2.2
  have hF : ∀ j, j < zN S → S 2 j = k → 0 ≤ zF S ac j := fun j hj e => by
    have a := (hv.2.2.1 j hj).1.2.2.2.2
    have b := hA j hj e
    unfold zF; omega
  have e1 := zEn_0 hF 12
  have e2 := zEn_le' hF 12
  have m : ∀ i, i ≤ zN S → 0 ≤ zMx S ac k i ∧ zMx S ac k i ≤ zCS S ac k := by
    intro i
    induction i with
    | zero => intro _; exact ⟨Int.le_refl 0, c.1⟩
    | succ i ih =>
      intro hi
      have := ih (by omega)
      rw [zMx_s]
      split
      · next z =>
        have := zBg_le (hv.2.2.2.1 k hk) (fun j hj => (hv.2.2.1 j hj).1.2.2.2.2.1) hA (k := i) (by omega) z.2.1
        omega
      · exact this
  have m := m _ (Nat.le_refl _)
  have q := (hv.2.2.1 k hk).1.1
  unfold zSi
  split
  · omega
  · split
    · omega
    · split <;> omega
theorem zLayFrom_step {S : zSt} {d r : Nat → Nat} {si ac : Nat → Int} {k : Nat} (hv : zVal S d r) (hk : k < zN S) (h : zLayFrom S d si ac (k + 1)) (e1 : si k = zSi S ac k) (e2 : ac k = zAc S (si k) k) : zLayFrom S d si ac k := by
  have a := zSi_le hv hk h
  have b := zAc_le (hv.2.2.1 k hk).1 (si := si k) (by omega)
  have c := (hv.2.2.1 k hk).1.2.2.2.2
  have all : ∀ j, k ≤ j → j < zN S → si j = zSi S ac j ∧ ac j = zAc S (si j) j ∧ 0 ≤ si j ∧ 0 ≤ ac j := fun j h1 h2 => by
    rcases Nat.lt_or_ge k j with z | z
    · exact h.1 j z h2
    · rw [show j = k by omega]
      exact ⟨e1, e2, by omega, by omega⟩
  refine ⟨all, zTop_step hv.1.2 (fun j hj => hv.tree hj) hk ?_ (fun j h1 h2 => ?_) ?_⟩
  · unfold zF; omega
  · have := (hv.2.2.1 j h1).1.2.2.2.2
    have := (all j h2 h1).2.2.2
    unfold zF; omega
  · have := h.2
    push_cast at this
    omega
theorem zLay_from {S : zSt} {d r : Nat → Nat} (hv : zVal S d r) {si ac : Nat → Int} (h : zLay S si ac) : ∀ m i, i + m = zN S → zLayFrom S d si ac i
  | 0, i, e => ⟨fun k h1 h2 => by omega, by
      have : zTop S ac d i = 0 := by
        unfold zTop
        have z : ∀ n, n ≤ i → zsum (fun j => decide (i ≤ j ∧ S 2 j < i)) (fun j => zF S ac j * 9 ^ d j) n = 0 := by
          intro n
          induction n with
          | zero => intro _; rfl
          | succ n ih => intro hn; rw [zsum_s, ih (by omega), decide_eq_false (by omega)]; rfl
        exact z _ (by omega)
      rw [this]; omega⟩
  | m + 1, i, e => zLayFrom_step hv (by omega) (zLay_from hv h m (i + 1) (by omega)) (h i (by omega)).1 (h i (by omega)).2
/-- how great the lengths are -/
theorem zLay_bound {S : zSt} {d r : Nat → Nat} (hv : zVal S d r) {si ac : Nat → Int} (h : zLay S si ac) {k : Nat} (hk : k < zN S) : (0 ≤ si k ∧ si k ≤ 80109810) ∧ (0 ≤ ac k ∧ ac k ≤ 720988290) := by
  have a := zSi_le hv hk (zLay_from hv h (zN S - (k + 1)) (k + 1) (by omega))
  have b := zAc_le (hv.2.2.1 k hk).1 (si := si k) (by rw [(h k hk).1]; exact a.1)
  rw [(h k hk).1, (h k hk).2] at *
  rw [(h k hk).1] at *
  omega
