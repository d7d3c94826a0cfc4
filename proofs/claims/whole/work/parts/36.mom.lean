/-! how the equations of a clip come about -/
section MK
variable {S M : zSt} {si ac : Nat → Int} {k : Nat} {bk ta : Int}
theorem zEqV_off (o : zOfA S M k) (a1 : M 1 k = 0) (a2 : M 2 k = -1) (a3 : M 3 k = -1) (a4 : M 4 k = -1) (a5 : M 5 k = 0) (a6 : M 6 k = 0) : zEqV S si ac M k bk ta := by
  have n : ¬ (M 1 k = 2 ∨ M 1 k = 3) := by omega
  refine ⟨by rw [if_pos o]; exact a1, by rw [if_neg (by omega), if_neg (by omega)]; exact a5, by rw [if_neg n]; exact a2, by rw [if_neg n]; exact a3, by rw [if_pos a1]; exact a4, by rw [if_neg n]; exact a6⟩
theorem zEqV_idle {st : Int} (o : ¬ zOfA S M k) (h : (st = 1 ∧ (bk = -1 ∨ ta < bk)) ∨ (st = 4 ∧ ¬ (bk = -1 ∨ ta < bk) ∧ ¬ ta - bk < ac k ∧ ¬ (S 7 (9 * k + 5) = 1 ∧ 0 < ac k))) (a1 : M 1 k = st) (a2 : M 2 k = -1) (a3 : M 3 k = -1) (a4 : M 4 k = bk) (a5 : M 5 k = 0) (a6 : M 6 k = 0) : zEqV S si ac M k bk ta := by
  have n : ¬ (M 1 k = 2 ∨ M 1 k = 3) := by omega
  refine ⟨?_, by rw [if_neg (by omega), if_neg (by omega)]; exact a5, by rw [if_neg n]; exact a2, by rw [if_neg n]; exact a3, by rw [if_neg (by omega)]; exact a4, by rw [if_neg n]; exact a6⟩
  rw [if_neg o, a1]
  rcases h with ⟨h1, h2⟩ | ⟨h1, h2, h3, h4⟩
  · rw [if_pos h2]; exact h1
  · rw [if_neg h2, if_neg h3, if_neg h4]; exact h1
theorem zEqV_run {st s : Int} (o : ¬ zOfA S M k) (w : ¬ (bk = -1 ∨ ta < bk)) (h : (st = 2 ∧ ta - bk < ac k ∧ s = ta - bk) ∨ (st = 3 ∧ ¬ ta - bk < ac k ∧ (S 7 (9 * k + 5) = 1 ∧ 0 < ac k) ∧ s = ac k - 1)) (a1 : M 1 k = st) (a2 : M 2 k = (if S 7 (9 * k + 4) = 1 then si k - 1 - s * S 7 (9 * k + 1) % si k else s * S 7 (9 * k + 1) % si k)) (a3 : M 3 k = s * S 7 (9 * k + 1) / si k) (a4 : M 4 k = bk) (a5 : M 5 k = s) (a6 : M 6 k = min 100 (min ((s + 1) * 100 / (S 7 (9 * k + 7) + 1)) ((ac k - s) * 100 / (S 7 (9 * k + 8) + 1))) * (if S 2 k = -1 then 100 else M 6 (S 2 k).toNat) / 100) : zEqV S si ac M k bk ta := by
  have n : M 1 k = 2 ∨ M 1 k = 3 := by omega
  refine ⟨?_, ?_, by rw [if_pos n, a5]; exact a2, by rw [if_pos n, a5]; exact a3, by rw [if_neg (by omega)]; exact a4, by rw [if_pos n, a5]; exact a6⟩
  · rw [if_neg o, if_neg w, a1]
    rcases h with ⟨h1, h2, -⟩ | ⟨h1, h2, h3, -⟩
    · rw [if_pos h2]; exact h1
    · rw [if_neg h2, if_pos h3]; exact h1
  · rw [a1, a5]
    rcases h with ⟨h1, h2, h3⟩ | ⟨h1, h2, h3, h4⟩
    · rw [if_pos h1]; exact h3
    · rw [if_neg (by omega), if_pos h1]; exact h4
end MK
/-! the class's moments are those of its Show -/
section MQ
variable {σ : zSt} {p k : Nat}
theorem zbp_A (h25 : σ 25 k = (zBs (zSv σ 1) 12 k : Int)) (ho : zOrd σ) {i : Nat} (hi : i < (σ 1 8).toNat) : zbp σ p k i = zbpA (zSv σ 1) (σ p 0) (fun r => σ (p + r)) (fun j r => σ (45 + 8 * j + r)) k i := by
  have e : (σ 43 i).toNat = zpr (zSv σ 1) i := by rw [ho i (by omega)]; rfl
  have th : ∀ r, σ (zTh σ p (zpr (zSv σ 1) i) + r) = zThA (zSv σ 1) (σ p 0) (fun r => σ (p + r)) (fun j r => σ (45 + 8 * j + r)) (zpr (zSv σ 1) i) r := by
    intro r
    unfold zTh zThA
    show σ ((if σ 10 _ = σ p 0 then p else _) + r) = (if σ 10 _ = σ p 0 then _ else _ : zSt) r
    split <;> rfl
  unfold zbp zbpA
  rw [e, h25, Int.toNat_natCast, th 1, th 3]
  rfl
theorem zBk_A (h24 : σ 24 k = zBe (zSv σ 1) (σ 23) k) (h25 : σ 25 k = (zBs (zSv σ 1) 12 k : Int)) (h26 : σ 26 k = (if zOk (zSv σ 1) k = true then 1 else 0)) (ho : zOrd σ) : zBkA (zSv σ 1) (σ 23) (σ p 0) (fun r => σ (p + r)) (fun j r => σ (45 + 8 * j + r)) k = zBk σ p k := by
  unfold zBkA zBk
  rw [h26]
  cases hO : zOk (zSv σ 1) k with
  | false => rw [if_neg (by decide), if_pos (by decide)]; exact h24.symm
  | true =>
    rw [if_pos rfl, if_neg (by decide)]
    unfold zBPA zBP
    have c := zfst_congr (n := (σ 1 8).toNat) (p := zbp σ p k) (q := zbpA (zSv σ 1) (σ p 0) (fun r => σ (p + r)) (fun j r => σ (45 + 8 * j + r)) k) (fun i hi => zbp_A h25 ho hi)
    rw [c]
    show (if zfst _ (σ 1 8).toNat = -1 then -1 else _) = _
    rcases zfst_spec (p := zbpA (zSv σ 1) (σ p 0) (fun r => σ (p + r)) (fun j r => σ (45 + 8 * j + r)) k) (n := (σ 1 8).toNat) with ⟨e, -⟩ | ⟨i, e1, e2, e3, -⟩
    · rw [if_pos e, if_pos e]
    · rw [if_neg (by omega), if_neg (by omega), e1, Int.toNat_natCast]
      have e : (σ 43 i).toNat = zpr (zSv σ 1) i := by rw [ho i (by omega)]; rfl
      rw [show zfst (zbpA (zSv σ 1) (σ p 0) (fun r => σ (p + r)) (fun j r => σ (45 + 8 * j + r)) k) (zSv σ 1 0 8).toNat = (i : Int) from e1, Int.toNat_natCast, h24, e]
      unfold zTh zThA
      show (if σ 10 _ = σ p 0 then _ else _ : zSt) 2 (σ 3 k).toNat + _ = σ ((if σ 10 _ = σ p 0 then p else _) + 2) (σ 3 k).toNat + _
      split <;> rfl
theorem zMq_A (h24 : σ 24 k = zBe (zSv σ 1) (σ 23) k) (h25 : σ 25 k = (zBs (zSv σ 1) 12 k : Int)) (h26 : σ 26 k = (if zOk (zSv σ 1) k = true then 1 else 0)) (ho : zOrd σ) (h : zMq σ p k) : zEqA (zSv σ 1) (σ 22) (σ 23) (σ p 0) (fun r => σ (p + r)) (fun j r => σ (45 + 8 * j + r)) k := by
  unfold zEqA
  rw [zBk_A h24 h25 h26 ho]
  show zEqV (zSv σ 1) (σ 22) (σ 23) (fun r => σ (p + r)) k (zBk σ p k) (zTa σ p k)
  obtain ⟨h1, h2⟩ := h
  by_cases o : zOff σ p k
  · obtain ⟨a1, a2, a3, a4, a5, a6⟩ := h1 o
    exact zEqV_off o a1 a2 a3 a4 a5 a6
  · have h2 := h2 o
    by_cases w : zBk σ p k = -1 ∨ zTa σ p k < zBk σ p k
    · obtain ⟨a1, a2, a3, a4, a5, a6⟩ := h2.1 w
      exact zEqV_idle o (Or.inl ⟨rfl, w⟩) a1 a2 a3 a4 a5 a6
    · have h3 := h2.2 w
      by_cases q : zTa σ p k - zBk σ p k < σ 23 k
      · obtain ⟨a1, a2, a3, a4, a5, a6⟩ := h3.1 q
        unfold zStr zOwn at a6
        rw [a5] at a6
        exact zEqV_run o w (Or.inl ⟨rfl, q, rfl⟩) a1 a2 a3 a4 a5 a6
      · have h4 := h3.2 q
        by_cases f : σ 8 (9 * k + 5) = 1 ∧ 0 < σ 23 k
        · obtain ⟨a1, a2, a3, a4, a5, a6⟩ := h4.1 f
          unfold zStr zOwn at a6
          rw [a5] at a6
          exact zEqV_run o w (Or.inr ⟨rfl, q, f, rfl⟩) a1 a2 a3 a4 a5 a6
        · obtain ⟨a1, a2, a3, a4, a5, a6⟩ := h4.2 f
          exact zEqV_idle o (Or.inr ⟨rfl, w, q, f⟩) a1 a2 a3 a4 a5 a6
end MQ
theorem zord_surj (tm : Nat → Int) : ∀ n j, j < n → ∃ i, i < n ∧ zord tm n i = j
  | 0, j, h => by omega
  | n + 1, j, h => by
    have hp := zpos_le tm (zord tm n) (tm n) n
    rcases Nat.lt_or_ge j n with z | z
    · obtain ⟨i, h1, h2⟩ := zord_surj tm n j z
      by_cases q : i < zpos tm (zord tm n) (tm n) n
      · exact ⟨i, by omega, by rw [zord_s, if_pos q]; exact h2⟩
      · exact ⟨i + 1, by omega, by rw [zord_s, if_neg (by omega), if_neg (by omega)]; exact h2⟩
    · exact ⟨zpos tm (zord tm n) (tm n) n, by omega, by rw [zord_s, if_neg (by omega), if_pos rfl, show j = n by omega]⟩
theorem zFilled_is {σ : zSt} {p : Nat} (h : zStage σ) (hf : zFilled σ p) : zIs (zSv σ 1) (σ p 0) (fun r => σ (p + r)) := by
  obtain ⟨⟨l1, l2, l3, l4⟩, hK, hs, ho, hF, hM, h7, hN⟩ := h
  obtain ⟨m1, m2, m3, m4⟩ := hf
  refine ⟨σ 22, σ 23, fun j r => σ (45 + 8 * j + r), l1, fun j hj => ?_, fun k hk => ?_, σ 44, ?_⟩
  · obtain ⟨i, hi, e⟩ := zord_surj (σ 10) (σ 1 8).toNat j hj
    have o := ho i (by omega)
    have e2 : (σ 43 i).toNat = j := by omega
    obtain ⟨f1, f2⟩ := hF i hi
    rw [e2] at f1 f2
    intro k hk
    have b := l2 k hk
    have A := zMq_A b.1 b.2.1 b.2.2 ho (f2.1 k hk)
    rw [f1] at A
    exact A
  · have b := l2 k hk
    exact zMq_A b.1 b.2.1 b.2.2 ho (m1 k hk)
  · obtain ⟨s1, s2⟩ := hs
    have e : (σ 33 6).toNat = zlvs (zSv σ 1) := by rw [s1, Int.toNat_natCast]; rfl
    rw [e] at m2 m4
    exact ⟨s2, m2, m4⟩
/-- the class as it stands between two calls, as far as its Show and its stage go -/
def zOn (σ : zSt) : Prop := zGood σ 1 ∧ zVt (zSv σ 1) ∧ zStage σ
/-- what a look at a time leaves -/
def zAtP (σ σ' : zSt) (t : Int) : Prop := (∀ a, (a < 34 ∨ 42 ≤ a) → σ' a = σ a) ∧ zStage σ' ∧ (∀ k, k < (σ 1 0).toNat → ∀ r, 1 ≤ r → r ≤ 6 → σ' (34 + r) k = zv (zSv σ 1) t r k) ∧ (∀ k, k < (σ 1 0).toNat → σ 2 k = 0 → σ' 41 k = zv (zSv σ 1) t 7 k) ∧ σ' 34 1 = zv (zSv σ 1) t 0 1
theorem zAtP_mk {σ σ' : zSt} {t : Int} (h : zOn σ) (h1 : ∀ a, (a < 34 ∨ 42 ≤ a) → σ' a = σ a) (h2 : zStage σ') (ht : 0 ≤ t ∧ t ≤ 1999) (h3 : σ' 34 0 = min t (σ 33 7)) (h4 : zFilled σ' 34) : zAtP σ σ' t := by
  obtain ⟨hg, hV, hS⟩ := h
  have E : zEqv (zSv σ' 1) (zSv σ 1) := zEqv.of (fun r hr => (h1 (1 + r) (by omega)).symm)
  have I := zIs_eqv (hV.eqv E.sym) E (zFilled_is h2 h4)
  rw [h3] at I
  obtain ⟨⟨l1, l2, l3, l4⟩, hK, hs, ho, hF, hM, h7, hN⟩ := hS
  have c := hg.1
  have I2 : zIs (zSv σ 1) t (fun r => σ' (34 + r)) := by
    by_cases z : t ≤ σ 33 7
    · rw [show min t (σ 33 7) = t by omega] at I; exact I
    · rw [show min t (σ 33 7) = σ 33 7 by omega] at I
      have up : ∀ i q, q < i → σ 10 (σ 43 q).toNat ≤ zsett (σ 21 5) (fun i => σ 10 (σ 43 i).toNat) i := by
        intro i
        induction i with
        | zero => intro q hq; omega
        | succ i ih =>
          intro q hq
          rw [zsett_s]
          rcases Nat.lt_or_ge q i with y | y
          · have := ih q y; omega
          · rw [show q = i by omega]; omega
      have lo : ∀ i, σ 21 5 ≤ zsett (σ 21 5) (fun i => σ 10 (σ 43 i).toNat) i := by
        intro i
        induction i with
        | zero => exact Int.le_refl _
        | succ i ih => rw [zsett_s]; omega
      refine zIs_late hV (s := σ 33 7) (fun j hj => ?_) (fun hN si ac hl => ?_) (Int.le_refl _) (by omega) I
      · obtain ⟨i, hi, e⟩ := zord_surj (σ 10) (σ 1 8).toNat j hj
        have o := ho i (by omega)
        have := up _ i hi
        rw [h7]
        rw [show (σ 43 i).toNat = j by omega] at this
        exact this
      · obtain ⟨⟨d, r, hv⟩, -⟩ := hV
        have u := (zLay_uniq hv hl l1 0 hN).2
        have hN' : 0 < (σ 1 0).toNat := hN
        rw [if_neg (by omega)] at l4
        have := lo (σ 1 8).toNat
        rw [h7]
        show σ 7 0 + ac 0 ≤ _
        omega
  obtain ⟨e1, e2, e3⟩ := zv_eq hV I2
  exact ⟨h1, h2, e1, e2, e3⟩
