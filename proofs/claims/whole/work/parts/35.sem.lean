/-! WHAT HOLDS AT A TIME: of a Show S alone. M r k: r = 1 state, 2 local, 3 pass, 4 begin, 5 since, 6 strength, 7 share; M 0 1 dark; P j: what held at press j -/
def zThA (S : zSt) (t : Int) (M : zSt) (P : Nat → zSt) (j : Nat) : zSt := if S 9 j = t then M else P j
def zpr (S : zSt) (i : Nat) : Nat := (zord (S 9) (S 0 8).toNat i).toNat
def zbpA (S : zSt) (t : Int) (M : zSt) (P : Nat → zSt) (k i : Nat) : Bool := decide (S 8 (zpr S i) = S 6 (zBs S 12 k) ∧ S 9 (zpr S i) ≤ t ∧ zThA S t M P (zpr S i) 1 (S 2 k).toNat = 2) && zsame (S 2) (M 3) (zThA S t M P (zpr S i) 3) 12 (S 2 k)
def zBPA (S : zSt) (ac : Nat → Int) (t : Int) (M : zSt) (P : Nat → zSt) (k : Nat) : Int := if zfst (zbpA S t M P k) (S 0 8).toNat = -1 then -1 else zThA S t M P (zpr S (zfst (zbpA S t M P k) (S 0 8).toNat).toNat) 2 (S 2 k).toNat + zBe S ac k
def zBkA (S : zSt) (ac : Nat → Int) (t : Int) (M : zSt) (P : Nat → zSt) (k : Nat) : Int := if zOk S k = true then zBPA S ac t M P k else zBe S ac k
def zTaA (S : zSt) (t : Int) (M : zSt) (k : Nat) : Int := if S 2 k = -1 then t else M 2 (S 2 k).toNat
abbrev zOfA (S M : zSt) (k : Nat) : Prop := S 2 k ≠ -1 ∧ ¬ (M 1 (S 2 k).toNat = 2 ∨ M 1 (S 2 k).toNat = 3)
def zEqV (S : zSt) (si ac : Nat → Int) (M : zSt) (k : Nat) (bk ta : Int) : Prop :=
  M 1 k = (if zOfA S M k then 0 else if bk = -1 ∨ ta < bk then 1 else if ta - bk < ac k then 2 else if S 7 (9 * k + 5) = 1 ∧ 0 < ac k then 3 else 4) ∧
  M 5 k = (if M 1 k = 2 then ta - bk else if M 1 k = 3 then ac k - 1 else 0) ∧
  M 2 k = (if M 1 k = 2 ∨ M 1 k = 3 then (if S 7 (9 * k + 4) = 1 then si k - 1 - M 5 k * S 7 (9 * k + 1) % si k else M 5 k * S 7 (9 * k + 1) % si k) else -1) ∧
  M 3 k = (if M 1 k = 2 ∨ M 1 k = 3 then M 5 k * S 7 (9 * k + 1) / si k else -1) ∧
  M 4 k = (if M 1 k = 0 then -1 else bk) ∧
  M 6 k = (if M 1 k = 2 ∨ M 1 k = 3 then min 100 (min ((M 5 k + 1) * 100 / (S 7 (9 * k + 7) + 1)) ((ac k - M 5 k) * 100 / (S 7 (9 * k + 8) + 1))) * (if S 2 k = -1 then 100 else M 6 (S 2 k).toNat) / 100 else 0)
def zEqA (S : zSt) (si ac : Nat → Int) (t : Int) (M : zSt) (P : Nat → zSt) (k : Nat) : Prop := zEqV S si ac M k (zBkA S ac t M P k) (zTaA S t M k)
def zAllA (S : zSt) (si ac : Nat → Int) (t : Int) (M : zSt) (P : Nat → zSt) : Prop := ∀ k, k < zN S → zEqA S si ac t M P k
def zFam (S : zSt) (si ac : Nat → Int) (P : Nat → zSt) : Prop := ∀ j, j < (S 0 8).toNat → zAllA S si ac (S 9 j) (P j) P
def zlvs (S : zSt) : Nat := zcnt (fun j => decide (S 1 j = 0)) (zN S)
def zShA (S M : zSt) : Prop := ∃ sd, zStand S sd (zlvs S) ∧ (∀ i, i < zlvs S → M 7 (sd i).toNat = zlt (M 6) sd i * M 6 (sd i).toNat / 100) ∧ M 0 1 = zlt (M 6) sd (zlvs S)
/-- M is what holds of S at t -/
def zIs (S : zSt) (t : Int) (M : zSt) : Prop := ∃ si ac P, zLay S si ac ∧ zFam S si ac P ∧ zAllA S si ac t M P ∧ zShA S M
/-- a Show that holds together, with its presses' times -/
def zVt (S : zSt) : Prop := (∃ d r, zVal S d r) ∧ (0 ≤ S 0 8 ∧ ∀ i, i < (S 0 8).toNat → 0 ≤ S 9 i ∧ S 9 i ≤ 1999)
theorem zpr_lt (S : zSt) {i : Nat} (hi : i < (S 0 8).toNat) : zpr S i < (S 0 8).toNat := by
  have := zord_in (S 9) (S 0 8).toNat i hi
  unfold zpr; omega
theorem zsame_cg {k : Nat} {ar ar' pa pb pa' pb' : Nat → Int} (hr : ∀ j, j < k → ar' j = ar j) (ht : ∀ j, j < k → -1 ≤ ar j ∧ ar j < j) (ha : ∀ j, j < k → pa' j = pa j) (hb : ∀ j, j < k → pb' j = pb j) : ∀ f (x : Int), -1 ≤ x → x < k → zsame ar' pa' pb' f x = zsame ar pa pb f x
  | 0, _, _, _ => rfl
  | f + 1, x, h1, h2 => by
    rw [zsame_s, zsame_s]
    split
    · rfl
    · rw [ha _ (by omega), hb _ (by omega), hr _ (by omega)]
      split
      · have := ht x.toNat (by omega)
        exact zsame_cg hr ht ha hb f _ (by omega) (by omega)
      · rfl
section SEM
variable {S T : zSt} {d r : Nat → Nat} {si ac si' ac' : Nat → Int} {t t' : Int} {M M' : zSt} {P P' : Nat → zSt} {k : Nat}
theorem zEqv.pr (E : zEqv S T) {i : Nat} (hi : i < (S 0 8).toNat) : zpr T i = zpr S i := by
  unfold zpr
  rw [E.1.2, zord_congr (tm := T 9) (tm' := S 9) _ (fun i hi => (E.2.2.2 i hi).2) i hi]
theorem zBkA_cong (E : zEqv S T) (hv : zVal S d r) (hk : k < zN S) (hac : zBe S ac' k = zBe S ac k) (h3 : ∀ q, q < k → M' 3 q = M 3 q)
    (hj : ∀ j, j < (S 0 8).toNat → (t < S 9 j ∧ t' < S 9 j) ∨ (S 9 j ≤ t ∧ S 9 j ≤ t' ∧ ∀ q, q < k → zThA T t' M' P' j 1 q = zThA S t M P j 1 q ∧ zThA T t' M' P' j 2 q = zThA S t M P j 2 q ∧ zThA T t' M' P' j 3 q = zThA S t M P j 3 q)) : zBkA T ac' t' M' P' k = zBkA S ac t M P k := by
  unfold zBkA
  rw [E.ok hv hk, E.be hv hk, hac]
  cases hO : zOk S k with
  | false => rfl
  | true =>
    rw [if_pos rfl, if_pos rfl]
    have tk := hv.2.1 k hk
    have hne : S 2 k ≠ -1 := fun e => by unfold zOk at hO; rw [if_pos e] at hO; cases hO
    have tr : ∀ j, j < k → -1 ≤ S 2 j ∧ S 2 j < j := fun j hj => ⟨(hv.2.1 j (by omega)).2.1, (hv.2.1 j (by omega)).1⟩
    have e2 : T 2 k = S 2 k := E.2.1 k hk 2 (by decide) (by decide)
    have bs := zBs_in hv 12 k hk
    have key : ∀ i, i < (S 0 8).toNat → zbpA T t' M' P' k i = zbpA S t M P k i := fun i hi => by
      have pl := zpr_lt S hi
      unfold zbpA
      rw [E.pr hi, e2, E.bs hv 12 k hk, E.2.1 _ bs.1 6 (by decide) (by decide), (E.2.2.2 _ pl).1, (E.2.2.2 _ pl).2]
      rcases hj _ pl with z | ⟨z1, z2, z3⟩
      · rw [decide_eq_false (fun q => by have := q.2.1; omega), decide_eq_false (fun q => by have := q.2.1; omega)]
        rfl
      · rw [zsame_cg (ar := S 2) (pa := M 3) (pb := zThA S t M P (zpr S i) 3) (k := k) (fun j hj => E.2.1 j (by omega) 2 (by decide) (by decide)) tr h3 (fun j hj => (z3 j hj).2.2) 12 (S 2 k) tk.2.1 tk.1, (z3 (S 2 k).toNat (by omega)).1]
        simp only [z1, z2]
    unfold zBPA
    rw [E.1.2, zfst_congr (q := zbpA S t M P k) key, E.be hv hk, hac]
    rcases zfst_spec (p := zbpA S t M P k) (n := (S 0 8).toNat) with ⟨e, -⟩ | ⟨i, e1, e3, e4, -⟩
    · rw [if_pos e, if_pos e]
    · rw [if_neg (by omega), if_neg (by omega), e1, Int.toNat_natCast, E.pr e3, e2]
      have pl := zpr_lt S e3
      rcases hj _ pl with z | ⟨z1, z2, z3⟩
      · unfold zbpA at e4
        rw [Bool.and_eq_true] at e4
        have := (of_decide_eq_true e4.1).2.1
        omega
      · rw [(z3 (S 2 k).toNat (by omega)).2.1]
/-- the equations fix a clip -/
theorem zEqV_fix {bk ta : Int} (hM : S 2 k ≠ -1 → M' 1 (S 2 k).toNat = M 1 (S 2 k).toNat ∧ M' 6 (S 2 k).toNat = M 6 (S 2 k).toNat) (h : zEqV S si ac M k bk ta) (h' : zEqV S si ac M' k bk ta) : ∀ r, 1 ≤ r → r ≤ 6 → M' r k = M r k := by
  obtain ⟨a1, a5, a2, a3, a4, a6⟩ := h
  obtain ⟨b1, b5, b2, b3, b4, b6⟩ := h'
  have o : zOfA S M' k ↔ zOfA S M k := by
    unfold zOfA
    by_cases e : S 2 k = -1
    · simp [e]
    · rw [(hM e).1]
  have e1 : M' 1 k = M 1 k := by
    rw [a1, b1]
    by_cases z : zOfA S M k
    · rw [if_pos z, if_pos (o.mpr z)]
    · rw [if_neg z, if_neg (fun q => z (o.mp q))]
  have e5 : M' 5 k = M 5 k := by rw [a5, b5, e1]
  have e6 : (if S 2 k = -1 then (100 : Int) else M' 6 (S 2 k).toNat) = if S 2 k = -1 then 100 else M 6 (S 2 k).toNat := by
    split
    · rfl
    · next z => exact (hM z).2
  intro r h1 h2
  rcases (by omega : r = 1 ∨ r = 2 ∨ r = 3 ∨ r = 4 ∨ r = 5 ∨ r = 6) with rfl | rfl | rfl | rfl | rfl | rfl
  · exact e1
  · rw [a2, b2, e1, e5]
  · rw [a3, b3, e1, e5]
  · rw [a4, b4, e1]
  · exact e5
  · rw [a6, b6, e1, e5, e6]
/-- at one time, with the same presses before it, there is one solution -/
theorem zAllA_fixn (hv : zVal S d r) (hP : ∀ j, j < (S 0 8).toNat → S 9 j < t → ∀ q, q < zN S → ∀ r, 1 ≤ r → r ≤ 3 → P' j r q = P j r q) : ∀ n, n ≤ zN S → (∀ k, k < n → zEqA S si ac t M P k) → (∀ k, k < n → zEqA S si ac t M' P' k) → ∀ k, k < n → ∀ r, 1 ≤ r → r ≤ 6 → M' r k = M r k
  | 0, _, _, _, k, hk => by omega
  | n + 1, hn, h, h', k, hk => by
    have ih := zAllA_fixn hv hP n (by omega) (fun k hk => h k (by omega)) (fun k hk => h' k (by omega))
    rcases Nat.lt_or_ge k n with z | z
    · exact ih k z
    · rw [show k = n by omega]
      have tk := hv.2.1 n (by omega)
      have hb : zBkA S ac t M' P' n = zBkA S ac t M P n := zBkA_cong (zEqv.of (fun _ _ => rfl)) hv (by omega) rfl (fun q hq => ih q hq 3 (by decide) (by decide)) (fun j hj => by
        by_cases e : t < S 9 j
        · exact Or.inl ⟨e, e⟩
        · refine Or.inr ⟨by omega, by omega, fun q hq => ?_⟩
          unfold zThA
          by_cases e2 : S 9 j = t
          · rw [if_pos e2, if_pos e2]
            exact ⟨ih q hq 1 (by decide) (by decide), ih q hq 2 (by decide) (by decide), ih q hq 3 (by decide) (by decide)⟩
          · rw [if_neg e2, if_neg e2]
            have p := hP j hj (by omega) q (by omega)
            exact ⟨p 1 (by decide) (by decide), p 2 (by decide) (by decide), p 3 (by decide) (by decide)⟩)
      have ht : zTaA S t M' n = zTaA S t M n := by
        unfold zTaA
        split
        · rfl
        · exact ih _ (by omega) 2 (by decide) (by decide)
      have a := h n (by omega)
      have b := h' n (by omega)
      unfold zEqA at a b
      rw [hb, ht] at b
      exact zEqV_fix (fun e => ⟨ih _ (by omega) 1 (by decide) (by decide), ih _ (by omega) 6 (by decide) (by decide)⟩) a b
theorem zAllA_fix (hv : zVal S d r) (hP : ∀ j, j < (S 0 8).toNat → S 9 j < t → ∀ q, q < zN S → ∀ r, 1 ≤ r → r ≤ 3 → P' j r q = P j r q) (h : zAllA S si ac t M P) (h' : zAllA S si ac t M' P') : ∀ n, n ≤ zN S → ∀ k, k < n → ∀ r, 1 ≤ r → r ≤ 6 → M' r k = M r k := fun n hn => zAllA_fixn hv hP n hn (fun k hk => h k (by omega)) (fun k hk => h' k (by omega))
/-- one family of presses alone -/
theorem zFam_fix (hv : zVal S d r) (ht : ∀ i, i < (S 0 8).toNat → 0 ≤ S 9 i) (h : zFam S si ac P) (h' : zFam S si ac P') : ∀ n : Nat, ∀ j, j < (S 0 8).toNat → S 9 j < n → ∀ k, k < zN S → ∀ r, 1 ≤ r → r ≤ 6 → P' j r k = P j r k
  | 0, j, hj, hn => by have := ht j hj; omega
  | n + 1, j, hj, hn => by
    have ih := zFam_fix hv ht h h' n
    exact zAllA_fix hv (fun i hi h1 q hq r r1 r2 => ih i hi (by omega) q hq r r1 (by omega)) (h j hj) (h' j hj) (zN S) (Nat.le_refl _)
/-- another layout of the same Show is the same -/
theorem zEqA_lay (hv : zVal S d r) (hl : ∀ k, k < zN S → si k = si' k ∧ ac k = ac' k) (hk : k < zN S) (h : zEqA S si ac t M P k) : zEqA S si' ac' t M P k := by
  have b : zBe S ac' k = zBe S ac k := zBe_congr hv hk (fun i hi _ => ((hl i hi).2).symm)
  have bk : zBkA S ac' t M P k = zBkA S ac t M P k := by
    unfold zBkA zBPA
    rw [b]
  unfold zEqA at *
  rw [bk]
  unfold zEqV at *
  rw [← (hl k hk).1, ← (hl k hk).2]
  exact h
/-- ONE MOMENT ALONE -/
theorem zAll_uniq (hS : zVt S) (h1 : zLay S si ac ∧ zFam S si ac P ∧ zAllA S si ac t M P) (h2 : zLay S si' ac' ∧ zFam S si' ac' P' ∧ zAllA S si' ac' t M' P') : ∀ k, k < zN S → ∀ r, 1 ≤ r → r ≤ 6 → M' r k = M r k := by
  obtain ⟨⟨d, r, hv⟩, p0, ht⟩ := hS
  have L := zLay_uniq hv h2.1 h1.1
  have F : zFam S si ac P' := fun j hj k hk => zEqA_lay hv L hk (h2.2.1 j hj k hk)
  have A : zAllA S si ac t M' P' := fun k hk => zEqA_lay hv L hk (h2.2.2 k hk)
  exact zAllA_fix hv (fun j hj _ q hq r r1 r2 => zFam_fix hv (fun i hi => (ht i hi).1) h1.2.1 F 2000 j hj (by have := ht j hj; omega) q hq r r1 (by omega)) h1.2.2 A (zN S) (Nat.le_refl _)
theorem zlt_congr {sg sg' sd sd' : Nat → Int} : ∀ i, (∀ j, j < i → sd' j = sd j ∧ sg' (sd j).toNat = sg (sd j).toNat) → zlt sg' sd' i = zlt sg sd i
  | 0, _ => rfl
  | i + 1, h => by rw [zlt_s, zlt_s, zlt_congr i (fun j hj => h j (by omega)), (h i (by omega)).1, (h i (by omega)).2]
theorem zpo_all (hk : k < zN S) (hl : S 1 k = 0) : zpo S k < zlvs S := by
  unfold zpo zlvs
  have a : ∀ i, i < zN S → zAh S (S 7 (9 * k + 6)) (k + 1) i = true → decide (S 1 i = 0) = true := fun i _ hi => decide_eq_true (of_decide_eq_true hi).1
  have b : zAh S (S 7 (9 * k + 6)) (k + 1) k = false := decide_eq_false (by omega)
  have c : decide (S 1 k = 0) = true := decide_eq_true hl
  have key : ∀ n, k < n → (∀ i, i < n → zAh S (S 7 (9 * k + 6)) (k + 1) i = true → decide (S 1 i = 0) = true) → zcnt (zAh S (S 7 (9 * k + 6)) (k + 1)) n < zcnt (fun j => decide (S 1 j = 0)) n := by
    intro n
    induction n with
    | zero => intro h1; omega
    | succ n ih =>
      intro h1 h2
      rcases Nat.lt_or_ge k n with z | z
      · have := ih z (fun i hi => h2 i (by omega))
        unfold zcnt
        cases hp : zAh S (S 7 (9 * k + 6)) (k + 1) n with
        | true => rw [h2 n (by omega) hp]; omega
        | false => rw [if_neg (show ¬ (false = true) by decide)]; split <;> omega
      · have e : n = k := by omega
        subst e
        have := zcnt_mono (fun i hi => h2 i (by omega)) (n := n) (p := zAh S (S 7 (9 * n + 6)) (n + 1)) (q := fun j => decide (S 1 j = 0))
        unfold zcnt
        rw [b, c]
        simp only [Bool.false_eq_true, if_false, if_true]
        omega
  exact key (zN S) hk a
/-- each leaf stands somewhere -/
theorem zStand.all {sd : Nat → Int} (h : zStand S sd (zlvs S)) (hk : k < zN S) (hl : S 1 k = 0) : ∃ i, i < zlvs S ∧ (sd i).toNat = k := by
  have a := zpo_all hk hl
  have b := h _ a
  exact ⟨zpo S k, a, zpo_inj b.2.1 hk b.2.2.1 hl b.2.2.2⟩
theorem zIs_uniq (hS : zVt S) (h1 : zIs S t M) (h2 : zIs S t M') : (∀ k, k < zN S → ∀ r, 1 ≤ r → r ≤ 6 → M' r k = M r k) ∧ (∀ k, k < zN S → S 1 k = 0 → M' 7 k = M 7 k) ∧ M' 0 1 = M 0 1 := by
  obtain ⟨si, ac, P, a1, a2, a3, sd, s1, s2, s3⟩ := h1
  obtain ⟨si', ac', P', b1, b2, b3, sd', u1, u2, u3⟩ := h2
  have R := zAll_uniq hS ⟨a1, a2, a3⟩ ⟨b1, b2, b3⟩
  have D := zStand_uniq s1 u1
  have Z : ∀ i, i ≤ zlvs S → zlt (M' 6) sd' i = zlt (M 6) sd i := fun i hi => zlt_congr i (fun j hj => ⟨(D j (by omega)).symm, R _ (s1 j (by omega)).2.1 6 (by decide) (by decide)⟩)
  refine ⟨R, fun k hk hl => ?_, by rw [s3, u3, Z _ (Nat.le_refl _)]⟩
  obtain ⟨i, hi, rfl⟩ := s1.all hk hl
  rw [s2 i hi, D i hi, u2 i hi, Z i (by omega), ← D i hi, R _ (s1 i hi).2.1 6 (by decide) (by decide)]
/-- two Shows that say the same have the same moments -/
theorem zIs_eqv (hS : zVt S) (E : zEqv S T) (h : zIs S t M) : zIs T t M := by
  obtain ⟨si, ac, P, a1, a2, a3, sd, s1, s2, s3⟩ := h
  obtain ⟨⟨d, r, hv⟩, p0, ht⟩ := hS
  have eq : ∀ (t : Int) (M : zSt) k, k < zN S → zEqA S si ac t M P k → zEqA T si ac t M P k := fun t M k hk h => by
    have tk := hv.2.1 k hk
    have e2 : T 2 k = S 2 k := E.2.1 k hk 2 (by decide) (by decide)
    have hb : zBkA T ac t M P k = zBkA S ac t M P k := zBkA_cong E hv hk rfl (fun _ _ => rfl) (fun j hj => by
      by_cases e : t < S 9 j
      · exact Or.inl ⟨e, e⟩
      · refine Or.inr ⟨by omega, by omega, fun q hq => ?_⟩
        unfold zThA
        rw [(E.2.2.2 j hj).2]
        exact ⟨rfl, rfl, rfl⟩)
    have m := E.2.2.1 k hk
    unfold zEqA zEqV zTaA zOfA at *
    simp only [hb, e2, m 1 (by decide), m 4 (by decide), m 5 (by decide), m 7 (by decide), m 8 (by decide)]
    exact h
  have lv : zlvs T = zlvs S := by
    unfold zlvs
    rw [E.n]
    exact zcnt_congr (fun j hj => by rw [E.2.1 j hj 1 (by decide) (by decide)])
  refine ⟨si, ac, P, E.lay hv a1, fun j hj k hk => ?_, fun k hk => ?_, sd, ?_⟩
  · rw [E.1.2] at hj
    rw [E.n] at hk
    rw [(E.2.2.2 j hj).2]
    exact eq _ _ k hk (a2 j hj k hk)
  · rw [E.n] at hk
    exact eq _ _ k hk (a3 k hk)
  · rw [lv]
    exact ⟨E.stand s1, s2, s3⟩
theorem zVt.eqv (hS : zVt S) (E : zEqv S T) : zVt T := by
  obtain ⟨⟨d, r, hv⟩, p0, ht⟩ := hS
  refine ⟨⟨d, r, E.val hv⟩, by rw [E.1.2]; exact p0, fun i hi => ?_⟩
  rw [E.1.2] at hi
  rw [(E.2.2.2 i hi).2]
  exact ht i hi
theorem zIs_step (hv : zVal S d r) {s : Int} (hs : ∀ i, i < (S 0 8).toNat → S 9 i ≤ s) (hl : 0 < zN S → ∀ si ac, zLay S si ac → S 6 0 + ac 0 ≤ s) (t1 : s ≤ t) (t2 : s ≤ t') (a1 : zLay S si ac) (a2 : zFam S si ac P) (a3 : zAllA S si ac t M P) (hk : k < zN S) (ih : ∀ q, q < k → zEqA S si ac t' M P q) : zEqA S si ac t' M P k := by
  have tk := hv.2.1 k hk
  have row : ∀ j, j < (S 0 8).toNat → S 9 j = t → ∀ q, q < k → ∀ r, 1 ≤ r → r ≤ 6 → P j r q = M r q := fun j hj e q hq r r1 r2 => by
    have A := a2 j hj
    rw [e] at A
    exact zAllA_fixn hv (fun _ _ _ _ _ _ _ _ => rfl) k (by omega) (fun k hk => a3 k (by omega)) (fun k hk => A k (by omega)) q hq r r1 r2
  have row' : ∀ j, j < (S 0 8).toNat → S 9 j = t' → ∀ q, q < k → ∀ r, 1 ≤ r → r ≤ 6 → P j r q = M r q := fun j hj e q hq r r1 r2 => by
    have A := a2 j hj
    rw [e] at A
    exact zAllA_fixn hv (fun _ _ _ _ _ _ _ _ => rfl) k (by omega) ih (fun k hk => A k (by omega)) q hq r r1 r2
  have hb : zBkA S ac t' M P k = zBkA S ac t M P k := zBkA_cong (zEqv.of (fun _ _ => rfl)) hv hk rfl (fun _ _ => rfl) (fun j hj => by
    have sj := hs j hj
    refine Or.inr ⟨by omega, by omega, fun q hq => ?_⟩
    unfold zThA
    by_cases e : S 9 j = t'
    · rw [if_pos e]
      by_cases e2 : S 9 j = t
      · rw [if_pos e2]; exact ⟨rfl, rfl, rfl⟩
      · rw [if_neg e2]
        have R := row' j hj e q hq
        exact ⟨(R 1 (by decide) (by decide)).symm, (R 2 (by decide) (by decide)).symm, (R 3 (by decide) (by decide)).symm⟩
    · rw [if_neg e]
      by_cases e2 : S 9 j = t
      · rw [if_pos e2]
        have R := row j hj e2 q hq
        exact ⟨R 1 (by decide) (by decide), R 2 (by decide) (by decide), R 3 (by decide) (by decide)⟩
      · rw [if_neg e2]; exact ⟨rfl, rfl, rfl⟩)
  have A := a3 k hk
  unfold zEqA at *
  rw [hb]
  by_cases e : S 2 k = -1
  · have k0 : k = 0 := tk.2.2.mpr e
    subst k0
    have L := hl hk si ac a1
    have hB : zBkA S ac t M P 0 = S 6 0 := by
      unfold zBkA zOk zBe
      simp [e]
    have T1 : zTaA S t M 0 = t := if_pos e
    have T2 : zTaA S t' M 0 = t' := if_pos e
    rw [hB, T1] at A
    rw [hB, T2]
    have m := (hv.2.2.1 0 hk).1.2.2.2.2
    have a0 := (zLay_bound hv a1 hk).2.1
    unfold zEqV at *
    have w1 : ¬ (S 6 0 = -1 ∨ t < S 6 0) := by omega
    have w2 : ¬ (S 6 0 = -1 ∨ t' < S 6 0) := by omega
    have w3 : ¬ t - S 6 0 < ac 0 := by omega
    have w4 : ¬ t' - S 6 0 < ac 0 := by omega
    rw [if_neg w1, if_neg w3] at A
    rw [if_neg w2, if_neg w4]
    obtain ⟨b1, b5, br⟩ := A
    refine ⟨b1, ?_, br⟩
    have n2 : ¬ M 1 0 = 2 := by
      rw [b1]
      split
      · decide
      · split <;> decide
    rw [if_neg n2] at b5 ⊢
    exact b5
  · have : zTaA S t' M k = zTaA S t M k := by unfold zTaA; rw [if_neg e, if_neg e]
    rw [this]
    exact A
/-- from when on nothing changes -/
theorem zIs_late (hS : zVt S) {s : Int} (hs : ∀ i, i < (S 0 8).toNat → S 9 i ≤ s) (hl : 0 < zN S → ∀ si ac, zLay S si ac → S 6 0 + ac 0 ≤ s) (t1 : s ≤ t) (t2 : s ≤ t') (h : zIs S t M) : zIs S t' M := by
  obtain ⟨si, ac, P, a1, a2, a3, a4⟩ := h
  obtain ⟨⟨d, r, hv⟩, p0, ht⟩ := hS
  refine ⟨si, ac, P, a1, a2, fun k hk => ?_, a4⟩
  have main : ∀ n, n ≤ zN S → ∀ k, k < n → zEqA S si ac t' M P k := by
    intro n
    induction n with
    | zero => intro _ k hk; omega
    | succ n ih =>
      intro hn k hk
      rcases Nat.lt_or_ge k n with z | z
      · exact ih (by omega) k z
      · rw [show k = n by omega]
        exact zIs_step hv hs hl t1 t2 a1 a2 a3 (by omega) (ih (by omega))
  exact main (zN S) (Nat.le_refl _) k hk
end SEM
/-- what holds of S at t -/
noncomputable def zv (S : zSt) (t : Int) : zSt := @dite _ (∃ M, zIs S t M) (Classical.propDecidable _) (fun h => Classical.choose h) (fun _ => fun _ _ => 0)
theorem zv_is {S M : zSt} {t : Int} (h : zIs S t M) : zIs S t (zv S t) := by
  have e : ∃ M, zIs S t M := ⟨M, h⟩
  unfold zv
  rw [dif_pos e]
  exact Classical.choose_spec e
theorem zv_eq {S M : zSt} {t : Int} (hS : zVt S) (h : zIs S t M) : (∀ k, k < zN S → ∀ r, 1 ≤ r → r ≤ 6 → M r k = zv S t r k) ∧ (∀ k, k < zN S → S 1 k = 0 → M 7 k = zv S t 7 k) ∧ M 0 1 = zv S t 0 1 := zIs_uniq hS (zv_is h) h
theorem zv_eqv {S T : zSt} {t : Int} (hS : zVt S) (E : zEqv S T) : zv T t = zv S t := by
  have : zIs T t = zIs S t := by
    funext M
    exact propext ⟨fun h => zIs_eqv (hS.eqv E) E.sym h, fun h => zIs_eqv hS E h⟩
  unfold zv
  rw [this]
