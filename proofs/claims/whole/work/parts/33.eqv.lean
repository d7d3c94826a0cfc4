/-! TWO SHOWS THAT SAY THE SAME -/
def zEqv (S T : zSt) : Prop := (T 0 0 = S 0 0 ∧ T 0 8 = S 0 8) ∧ (∀ k, k < zN S → ∀ r, 1 ≤ r → r ≤ 6 → T r k = S r k) ∧ (∀ k, k < zN S → ∀ w, w < 9 → T 7 (9 * k + w) = S 7 (9 * k + w)) ∧ ∀ i, i < (S 0 8).toNat → T 8 i = S 8 i ∧ T 9 i = S 9 i
section EQV
variable {S T : zSt} {d r : Nat → Nat} {ac si : Nat → Int}
theorem zEqv.of (h : ∀ r, r < 10 → T r = S r) : zEqv S T := ⟨⟨by rw [h 0 (by decide)], by rw [h 0 (by decide)]⟩, fun k _ r _ _ => by rw [h r (by omega)], fun k _ w _ => by rw [h 7 (by decide)], fun i _ => ⟨by rw [h 8 (by decide)], by rw [h 9 (by decide)]⟩⟩
theorem zEqv.n (h : zEqv S T) : zN T = zN S := by unfold zN; rw [h.1.1]
theorem zEqv.sym (h : zEqv S T) : zEqv T S := ⟨⟨h.1.1.symm, h.1.2.symm⟩, fun k hk r h1 h2 => (h.2.1 k (by rw [h.n] at hk; exact hk) r h1 h2).symm, fun k hk w hw => (h.2.2.1 k (by rw [h.n] at hk; exact hk) w hw).symm, fun i hi => by have := h.2.2.2 i (by rw [h.1.2] at hi; exact hi); exact ⟨this.1.symm, this.2.symm⟩⟩
theorem zEqv.tr {U : zSt} (h : zEqv S T) (g : zEqv T U) : zEqv S U := ⟨⟨g.1.1.trans h.1.1, g.1.2.trans h.1.2⟩, fun k hk r h1 h2 => (g.2.1 k (by rw [h.n]; exact hk) r h1 h2).trans (h.2.1 k hk r h1 h2), fun k hk w hw => (g.2.2.1 k (by rw [h.n]; exact hk) w hw).trans (h.2.2.1 k hk w hw), fun i hi => ⟨((g.2.2.2 i (by rw [h.1.2]; exact hi)).1).trans (h.2.2.2 i hi).1, ((g.2.2.2 i (by rw [h.1.2]; exact hi)).2).trans (h.2.2.2 i hi).2⟩⟩
theorem zEqv.ch (h : zEqv S T) (q p : Int) : zch T q p = zch S q p := by
  unfold zch
  rw [h.n]
  exact zfst_congr (fun k hk => by rw [h.2.1 k hk 2 (by decide) (by decide), h.2.1 k hk 3 (by decide) (by decide)])
theorem zch_lt (S : zSt) (q p : Int) : zch S q p = -1 ∨ ∃ i : Nat, zch S q p = i ∧ i < zN S ∧ S 2 i = q ∧ S 3 i = p := by
  have sp : (zch S q p = -1 ∧ ∀ k, k < zN S → decide (S 2 k = q ∧ S 3 k = p) = false) ∨ ∃ i : Nat, zch S q p = (i : Int) ∧ i < zN S ∧ decide (S 2 i = q ∧ S 3 i = p) = true ∧ ∀ k, k < i → decide (S 2 k = q ∧ S 3 k = p) = false := zfst_spec
  rcases sp with ⟨e, -⟩ | ⟨i, e1, e2, e3, -⟩
  · exact Or.inl e
  · exact Or.inr ⟨i, e1, e2, of_decide_eq_true e3⟩
theorem zEqv.en (h : zEqv S T) (q : Nat) : ∀ p, zEn T ac q p = zEn S ac q p
  | 0 => rfl
  | p + 1 => by
    rw [zEn_s, zEn_s, h.en q p, h.ch]
    rcases zch_lt S q p with e | ⟨i, e, hi, -⟩
    · rw [if_pos e, if_pos e]
    · rw [e, Int.toNat_natCast, h.2.1 i hi 6 (by decide) (by decide)]
theorem zVal.oth (hv : zVal S d r) {k : Nat} (hk : k < zN S) (hb : zby (S 4 k) = true) : 0 ≤ S 5 k ∧ (S 5 k).toNat < zN S ∧ S 2 (S 5 k).toNat = S 2 k ∧ r (S 5 k).toNat < r k := by
  have a := (hv.2.2.1 k hk).2.2.2.2 (fun e => by rw [e] at hb; cases hb)
  have t := hv.2.1 k hk
  have hq : ((S 2 k).toNat : Int) = S 2 k := by
    have : ¬ S 2 k = -1 := fun e => by have := t.2.2.mpr e; omega
    omega
  have g := hv.2.2.2.1 (S 2 k).toNat (by omega) k hk hq.symm hb
  exact ⟨g.1, g.2.1, by rw [g.2.2.1]; exact hq, g.2.2.2⟩
theorem zEqv.bs (h : zEqv S T) (hv : zVal S d r) : ∀ f k, k < zN S → zBs T f k = zBs S f k
  | 0, _, _ => rfl
  | f + 1, k, hk => by
    rw [zBs_s, zBs_s, h.2.1 k hk 4 (by decide) (by decide), h.2.1 k hk 5 (by decide) (by decide)]
    split
    · next hb => exact h.bs hv f _ (hv.oth hk hb).2.1
    · rfl
theorem zEqv.bw (h : zEqv S T) (hv : zVal S d r) : ∀ f k, k < zN S → zBw T ac f k = zBw S ac f k
  | 0, _, _ => rfl
  | f + 1, k, hk => by
    rw [zBw_s, zBw_s, h.2.1 k hk 4 (by decide) (by decide), h.2.1 k hk 5 (by decide) (by decide), h.2.1 k hk 6 (by decide) (by decide)]
    split
    · next hb => rw [h.bw hv f _ (hv.oth hk hb).2.1]
    · rfl
theorem zEqv.op (h : zEqv S T) (hv : zVal S d r) {k : Nat} (hk : k < zN S) : zOp T k = zOp S k := by
  unfold zOp
  rw [h.bs hv 12 k hk, h.2.1 _ (zBs_in hv 12 k hk).1 4 (by decide) (by decide)]
theorem zEqv.bg (h : zEqv S T) (hv : zVal S d r) {k : Nat} (hk : k < zN S) : zBg T ac k = zBg S ac k := by
  unfold zBg
  rw [h.op hv hk, h.bw hv 12 k hk, h.bs hv 12 k hk, h.2.1 _ (zBs_in hv 12 k hk).1 6 (by decide) (by decide)]
theorem zEqv.mx (h : zEqv S T) (hv : zVal S d r) (q : Nat) : ∀ i, i ≤ zN S → zMx T ac q i = zMx S ac q i
  | 0, _ => rfl
  | i + 1, hi => by
    rw [zMx_s, zMx_s, h.mx hv q i (by omega), h.op hv (show i < zN S by omega), h.bg hv (show i < zN S by omega), h.2.1 i (by omega) 2 (by decide) (by decide)]
theorem zEqv.sie (h : zEqv S T) (hv : zVal S d r) {k : Nat} (hk : k < zN S) : zSi T ac k = zSi S ac k := by
  unfold zSi
  rw [h.n, h.en, h.mx hv k _ (Nat.le_refl _), show T 7 (9 * k) = S 7 (9 * k) from h.2.2.1 k hk 0 (by decide), h.2.1 k hk 1 (by decide) (by decide)]
theorem zEqv.ace (h : zEqv S T) {k : Nat} (hk : k < zN S) (x : Int) : zAc T x k = zAc S x k := by
  unfold zAc zAcW
  rw [h.2.2.1 k hk 1 (by decide), h.2.2.1 k hk 2 (by decide), h.2.2.1 k hk 3 (by decide)]
theorem zEqv.lay (h : zEqv S T) (hv : zVal S d r) (hl : zLay S si ac) : zLay T si ac := fun k hk => by
  rw [h.n] at hk
  rw [h.sie hv hk, h.ace hk]
  exact hl k hk
theorem zEqv.kd (h : zEqv S T) (hv : zVal S d r) {k : Nat} (hk : k < zN S) (hne : ¬ S 2 k = -1) : T 1 (S 2 k).toNat = S 1 (S 2 k).toNat := by
  have t := hv.2.1 k hk
  exact h.2.1 _ (by omega) 1 (by decide) (by decide)
theorem zEqv.be (h : zEqv S T) (hv : zVal S d r) {k : Nat} (hk : k < zN S) : zBe T ac k = zBe S ac k := by
  unfold zBe
  rw [h.2.1 k hk 2 (by decide) (by decide), h.2.1 k hk 6 (by decide) (by decide), h.2.1 k hk 3 (by decide) (by decide)]
  split
  · rfl
  · next hne => rw [h.kd hv hk hne, h.en, h.bg hv hk]
theorem zEqv.ok (h : zEqv S T) (hv : zVal S d r) {k : Nat} (hk : k < zN S) : zOk T k = zOk S k := by
  unfold zOk
  rw [h.2.1 k hk 2 (by decide) (by decide)]
  split
  · rfl
  · next hne => rw [h.kd hv hk hne, h.op hv hk]
theorem zEqv.val (h : zEqv S T) (hv : zVal S d r) : zVal T d r := by
  obtain ⟨⟨v1, v2⟩, v3, v4, v5, v6, v7⟩ := hv
  have hv : zVal S d r := ⟨⟨v1, v2⟩, v3, v4, v5, v6, v7⟩
  have e := fun k hk r h1 h2 => h.2.1 k hk r h1 h2
  have m := h.2.2.1
  refine ⟨⟨by rw [h.n]; exact v1, fun k hk => ?_⟩, fun k hk => ?_, fun k hk => ?_, fun q hq => ?_, fun k hk => ?_, fun q p p' hp => ?_⟩
  · rw [h.n] at hk
    refine ⟨(v2 k hk).1, fun j hj => ?_⟩
    rw [h.n] at hj
    rw [e j hj 2 (by decide) (by decide)]
    exact (v2 k hk).2 j hj
  · rw [h.n] at hk
    rw [e k hk 2 (by decide) (by decide)]
    exact v3 k hk
  · rw [h.n] at hk
    unfold zMk
    rw [m k hk 1 (by decide), m k hk 2 (by decide), m k hk 3 (by decide), show T 7 (9 * k) = S 7 (9 * k) from m k hk 0 (by decide), e k hk 1 (by decide) (by decide), e k hk 2 (by decide) (by decide), e k hk 4 (by decide) (by decide), e k hk 6 (by decide) (by decide)]
    have a := v4 k hk
    by_cases hne : S 2 k = -1
    · have z := (v3 k hk).2.2.mpr hne
      exact ⟨a.1, a.2.1, a.2.2.1, fun q => by omega, fun q => by have := (a.2.2.2.2 q).1; omega⟩
    · rw [h.kd hv hk hne]
      exact a
  · rw [h.n] at hq
    intro j hj hj2 hb
    rw [h.n] at hj ⊢
    rw [e j hj 2 (by decide) (by decide)] at hj2
    rw [e j hj 4 (by decide) (by decide)] at hb
    have a := v5 q hq j hj hj2 hb
    rw [e j hj 5 (by decide) (by decide), e _ a.2.1 2 (by decide) (by decide)]
    exact a
  · rw [h.n] at hk
    rw [e k hk 2 (by decide) (by decide), e k hk 3 (by decide) (by decide), h.ch]
    exact v6 k hk
  · rw [h.ch, h.ch]; exact v7 q p p' hp
theorem zEqv.po (h : zEqv S T) {k : Nat} (hk : k < zN S) : zpo T k = zpo S k := by
  unfold zpo
  rw [h.n]
  exact zcnt_congr (fun j hj => by unfold zAh; rw [h.2.1 j hj 1 (by decide) (by decide), h.2.2.1 j hj 6 (by decide), h.2.2.1 k hk 6 (by decide)])
theorem zEqv.stand (h : zEqv S T) {sd : Nat → Int} {m : Nat} (hs : zStand S sd m) : zStand T sd m := fun i hi => by
  have a := hs i hi
  rw [h.n, h.2.1 _ a.2.1 1 (by decide) (by decide), h.po a.2.1]
  exact a
theorem zpos_congr {tm tm' a b : Nat → Int} {t t' : Int} (ht : t = t') : ∀ p, (∀ i, i < p → tm (a i).toNat = tm' (b i).toNat) → zpos tm a t p = zpos tm' b t' p
  | 0, _ => rfl
  | p + 1, h => by
    rw [zpos_s, zpos_s, zpos_congr ht p (fun i hi => h i (by omega)), h p (by omega), ht]
theorem zord_congr {tm tm' : Nat → Int} : ∀ n, (∀ i, i < n → tm i = tm' i) → ∀ j, j < n → zord tm n j = zord tm' n j
  | 0, _, j, hj => by omega
  | n + 1, h, j, hj => by
    have ih := zord_congr n (fun i hi => h i (by omega))
    have e : zpos tm (zord tm n) (tm n) n = zpos tm' (zord tm' n) (tm' n) n := zpos_congr (h n (by omega)) n (fun i hi => by
      rw [← ih i hi]
      have := zord_in tm n i hi
      exact h _ (by omega))
    have hp := zpos_le tm (zord tm n) (tm n) n
    rw [zord_s, zord_s, e]
    rw [e] at hp
    split
    · exact ih j (by omega)
    · split
      · rfl
      · exact ih (j - 1) (by omega)
end EQV
