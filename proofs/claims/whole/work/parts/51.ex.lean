/-! WHAT IS ASKED FOR IS THERE: a layout, moments -/
section EX
variable {S : zSt} {d r : Nat → Nat} {si ac : Nat → Int} {t : Int} {M M' : zSt} {P P' : Nat → zSt} {k : Nat}
theorem zLay_ex (hv : zVal S d r) : ∃ si ac, zLay S si ac := by
  have key : ∀ m i, i + m = zN S → ∃ si ac : Nat → Int, ∀ k, i ≤ k → k < zN S → si k = zSi S ac k ∧ ac k = zAc S (si k) k := by
    intro m
    induction m with
    | zero => intro i hi; exact ⟨fun _ => 0, fun _ => 0, fun k h1 h2 => by omega⟩
    | succ m ih =>
      intro i hi
      obtain ⟨si, ac, h⟩ := ih (i + 1) (by omega)
      refine ⟨zu si i (zSi S ac i), zu ac i (zAc S (zSi S ac i) i), fun k h1 h2 => ?_⟩
      have e : zSi S (zu ac i (zAc S (zSi S ac i) i)) k = zSi S ac k := zSi_congr hv h2 (fun j _ hj => zu_ne (by omega))
      rw [e]
      by_cases z : k = i
      · subst z
        rw [zu_eq, zu_eq]
        exact ⟨rfl, rfl⟩
      · rw [zu_ne z, zu_ne z]
        exact h k (by omega) h2
  obtain ⟨si, ac, h⟩ := key (zN S) 0 (by omega)
  exact ⟨si, ac, fun k hk => h k (by omega) hk⟩
/-- the equations of a clip ask no later clip -/
theorem zBkA_cgM (hv : zVal S d r) (hk : k < zN S) (h : ∀ q, q < k → ∀ r, 1 ≤ r → r ≤ 6 → M' r q = M r q) (hP : ∀ j, j < (S 0 8).toNat → S 9 j < t → P' j = P j) : zBkA S ac t M' P' k = zBkA S ac t M P k :=
  zBkA_cong (zEqv.of (fun _ _ => rfl)) hv hk rfl (fun q hq => h q hq 3 (by decide) (by decide)) (fun j hj => by
    by_cases e : t < S 9 j
    · exact Or.inl ⟨e, e⟩
    · refine Or.inr ⟨by omega, by omega, fun q hq => ?_⟩
      unfold zThA
      by_cases e2 : S 9 j = t
      · rw [if_pos e2, if_pos e2]
        exact ⟨h q hq 1 (by decide) (by decide), h q hq 2 (by decide) (by decide), h q hq 3 (by decide) (by decide)⟩
      · rw [if_neg e2, if_neg e2, hP j hj (by omega)]
        exact ⟨rfl, rfl, rfl⟩)
theorem zTaA_cgM (hv : zVal S d r) (hk : k < zN S) (h : ∀ q, q < k → ∀ r, 1 ≤ r → r ≤ 6 → M' r q = M r q) : zTaA S t M' k = zTaA S t M k := by
  have tk := hv.2.1 k hk
  unfold zTaA
  split
  · rfl
  · exact h _ (by omega) 2 (by decide) (by decide)
theorem zEqA_cg (hv : zVal S d r) (hk : k < zN S) (h : ∀ q, q ≤ k → ∀ r, 1 ≤ r → r ≤ 6 → M' r q = M r q) (hP : ∀ j, j < (S 0 8).toNat → S 9 j < t → P' j = P j) (hA : zEqA S si ac t M P k) : zEqA S si ac t M' P' k := by
  have tk := hv.2.1 k hk
  have h' : ∀ q, q < k → ∀ r, 1 ≤ r → r ≤ 6 → M' r q = M r q := fun q hq => h q (by omega)
  unfold zEqA at *
  rw [zBkA_cgM hv hk h' hP, zTaA_cgM hv hk h']
  have o : zOfA S M' k ↔ zOfA S M k := by
    unfold zOfA
    by_cases e : S 2 k = -1
    · simp [e]
    · rw [h' _ (by omega) 1 (by decide) (by decide)]
  have s6 : (if S 2 k = -1 then (100 : Int) else M' 6 (S 2 k).toNat) = if S 2 k = -1 then 100 else M 6 (S 2 k).toNat := by
    split
    · rfl
    · exact h' _ (by omega) 6 (by decide) (by decide)
  unfold zEqV at *
  rw [h k (Nat.le_refl _) 1 (by decide) (by decide), h k (Nat.le_refl _) 2 (by decide) (by decide), h k (Nat.le_refl _) 3 (by decide) (by decide), h k (Nat.le_refl _) 4 (by decide) (by decide), h k (Nat.le_refl _) 5 (by decide) (by decide), h k (Nat.le_refl _) 6 (by decide) (by decide), s6]
  by_cases z : zOfA S M k
  · rw [if_pos (o.mpr z)]; rw [if_pos z] at hA; exact hA
  · rw [if_neg (fun q => z (o.mp q))]; rw [if_neg z] at hA; exact hA
theorem zAllA_ex (hv : zVal S d r) (si ac : Nat → Int) (t : Int) (P : Nat → zSt) : ∃ M, zAllA S si ac t M P := by
  have key : ∀ n, n ≤ zN S → ∃ M : zSt, ∀ k, k < n → zEqA S si ac t M P k := by
    intro n
    induction n with
    | zero => intro _; exact ⟨fun _ _ => 0, fun k hk => by omega⟩
    | succ n ih =>
      intro hn
      obtain ⟨M, h⟩ := ih (by omega)
      have tn := hv.2.1 n (by omega)
      obtain ⟨bk, hbk⟩ : ∃ x, x = zBkA S ac t M P n := ⟨_, rfl⟩
      obtain ⟨ta, hta⟩ : ∃ x, x = zTaA S t M n := ⟨_, rfl⟩
      obtain ⟨a1, h1⟩ : ∃ x : Int, x = (if zOfA S M n then 0 else if bk = -1 ∨ ta < bk then 1 else if ta - bk < ac n then 2 else if S 7 (9 * n + 5) = 1 ∧ 0 < ac n then 3 else 4) := ⟨_, rfl⟩
      obtain ⟨a5, h5⟩ : ∃ x : Int, x = (if a1 = 2 then ta - bk else if a1 = 3 then ac n - 1 else 0) := ⟨_, rfl⟩
      obtain ⟨a2, h2⟩ : ∃ x : Int, x = (if a1 = 2 ∨ a1 = 3 then (if S 7 (9 * n + 4) = 1 then si n - 1 - a5 * S 7 (9 * n + 1) % si n else a5 * S 7 (9 * n + 1) % si n) else -1) := ⟨_, rfl⟩
      obtain ⟨a3, h3⟩ : ∃ x : Int, x = (if a1 = 2 ∨ a1 = 3 then a5 * S 7 (9 * n + 1) / si n else -1) := ⟨_, rfl⟩
      obtain ⟨a4, h4⟩ : ∃ x : Int, x = (if a1 = 0 then -1 else bk) := ⟨_, rfl⟩
      obtain ⟨a6, h6⟩ : ∃ x : Int, x = (if a1 = 2 ∨ a1 = 3 then min 100 (min ((a5 + 1) * 100 / (S 7 (9 * n + 7) + 1)) ((ac n - a5) * 100 / (S 7 (9 * n + 8) + 1))) * (if S 2 n = -1 then 100 else M 6 (S 2 n).toNat) / 100 else 0) := ⟨_, rfl⟩
      obtain ⟨M', hM⟩ : ∃ M' : zSt, M' = fun r => zu (M r) n (if r = 1 then a1 else if r = 2 then a2 else if r = 3 then a3 else if r = 4 then a4 else if r = 5 then a5 else a6) := ⟨_, rfl⟩
      have lo : ∀ q, q < n → ∀ r, 1 ≤ r → r ≤ 6 → M' r q = M r q := fun q hq r _ _ => by rw [hM]; exact zu_ne (by omega)
      have e1 : M' 1 n = a1 := by rw [hM]; exact zu_eq _ _ _
      have e2 : M' 2 n = a2 := by rw [hM]; exact zu_eq _ _ _
      have e3 : M' 3 n = a3 := by rw [hM]; exact zu_eq _ _ _
      have e4 : M' 4 n = a4 := by rw [hM]; exact zu_eq _ _ _
      have e5 : M' 5 n = a5 := by rw [hM]; exact zu_eq _ _ _
      have e6 : M' 6 n = a6 := by rw [hM]; exact zu_eq _ _ _
      refine ⟨M', fun k hk => ?_⟩
      rcases Nat.lt_or_ge k n with z | z
      · exact zEqA_cg hv (by omega) (fun q hq => lo q (by omega)) (fun _ _ _ => rfl) (h k z)
      · rw [show k = n by omega]
        unfold zEqA
        rw [zBkA_cgM hv (by omega) lo (fun _ _ _ => rfl), zTaA_cgM hv (by omega) lo, ← hbk, ← hta]
        have o : zOfA S M' n ↔ zOfA S M n := by
          unfold zOfA
          by_cases e : S 2 n = -1
          · simp [e]
          · rw [lo _ (by omega) 1 (by decide) (by decide)]
        have s6 : (if S 2 n = -1 then (100 : Int) else M' 6 (S 2 n).toNat) = if S 2 n = -1 then 100 else M 6 (S 2 n).toNat := by
          split
          · rfl
          · exact lo _ (by omega) 6 (by decide) (by decide)
        unfold zEqV
        rw [e1, e2, e3, e4, e5, e6, s6]
        refine ⟨?_, h5, h2, h3, h4, h6⟩
        rw [h1]
        by_cases z : zOfA S M n
        · rw [if_pos z, if_pos (o.mpr z)]
        · rw [if_neg z, if_neg (fun q => z (o.mp q))]
  obtain ⟨M, h⟩ := key (zN S) (Nat.le_refl _)
  exact ⟨M, h⟩
theorem zFam_ex (hv : zVal S d r) (ht : ∀ i, i < (S 0 8).toNat → 0 ≤ S 9 i ∧ S 9 i ≤ 1999) (si ac : Nat → Int) : ∃ P, zFam S si ac P := by
  have key : ∀ T : Nat, ∃ P : Nat → zSt, ∀ j, j < (S 0 8).toNat → S 9 j < T → zAllA S si ac (S 9 j) (P j) P := by
    intro T
    induction T with
    | zero => exact ⟨fun _ _ _ => 0, fun j hj h => by have := (ht j hj).1; omega⟩
    | succ T ih =>
      obtain ⟨P, h⟩ := ih
      obtain ⟨M, hM⟩ := zAllA_ex hv si ac (T : Int) P
      refine ⟨fun j => if S 9 j = (T : Int) then M else P j, fun j hj hT k hk => ?_⟩
      dsimp only
      by_cases e : S 9 j = (T : Int)
      · rw [if_pos e, e]
        exact zEqA_cg hv hk (fun _ _ _ _ _ => rfl) (fun i _ hi => if_neg (by omega)) (hM k hk)
      · rw [if_neg e]
        exact zEqA_cg hv hk (fun _ _ _ _ _ => rfl) (fun i _ hi => if_neg (by omega)) (h j hj (by omega) k hk)
  obtain ⟨P, h⟩ := key 2000
  exact ⟨P, fun j hj => h j hj (by have := (ht j hj).2; omega)⟩
theorem zIs_ex (hS : zVt S) (hs : ∃ sd, zStand S sd (zlvs S)) (t : Int) : ∃ M, zIs S t M := by
  obtain ⟨⟨d, r, hv⟩, p0, ht⟩ := hS
  obtain ⟨sd, hs⟩ := hs
  obtain ⟨si, ac, hl⟩ := zLay_ex hv
  obtain ⟨P, hP⟩ := zFam_ex hv ht si ac
  obtain ⟨M, hM⟩ := zAllA_ex hv si ac t P
  refine ⟨fun r => if r = 7 then (fun k => zlt (M 6) sd (zpo S k) * M 6 k / 100) else if r = 0 then (fun _ => zlt (M 6) sd (zlvs S)) else M r, si, ac, P, hl, hP, fun k hk => ?_, sd, hs, fun i hi => ?_, rfl⟩
  · refine zEqA_cg hv hk (fun q hq r r1 r2 => ?_) (fun _ _ _ => rfl) (hM k hk)
    rw [if_neg (by omega), if_neg (by omega)]
  · have a := hs i hi
    show zlt (M 6) sd (zpo S (sd i).toNat) * M 6 (sd i).toNat / 100 = zlt (M 6) sd i * M 6 (sd i).toNat / 100
    rw [a.2.2.2]
/-- the moments of the class's Show -/
theorem zOn.is {σ : zSt} (h : zOn σ) (t : Int) : zIs (zSv σ 1) t (zv (zSv σ 1) t) := by
  obtain ⟨M, hM⟩ := zIs_ex h.2.1 ⟨σ 44, h.2.2.2.2.1.2⟩ t
  exact zv_is hM
end EX
