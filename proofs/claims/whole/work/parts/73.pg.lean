/-! PLACES, once more: within each clip they are 0, 1, 2 .. -/
section PG
variable {S T : zSt} {d r : Nat → Nat} {k : Nat}
def zPg (S : zSt) : Prop := (∀ k, k < zN S → 0 ≤ S 3 k ∧ S 3 k < (zcnt (fun j => decide (S 2 j = S 2 k)) (zN S) : Int)) ∧ ∀ j k, j < zN S → k < zN S → S 2 j = S 2 k → S 3 j = S 3 k → j = k
theorem zVal.pg (hv : zVal S d r) : zPg S := by
  refine ⟨fun k hk => ?_, fun j k hj hk e2 e3 => ?_⟩
  · have z := hv.2.2.2.2.1 k hk
    have w := (zpl_iff hv (S 2 k) (S 3 k).toNat).mp (by rw [show (((S 3 k).toNat : Nat) : Int) = S 3 k by omega, z.2.2]; omega)
    omega
  · have a := (hv.2.2.2.2.1 j hj).2.2
    have b := (hv.2.2.2.2.1 k hk).2.2
    rw [e2, e3, b] at a
    omega
theorem zcnt_full {p : Nat → Bool} : ∀ {n : Nat}, zcnt p n = n → ∀ k, k < n → p k = true
  | 0, _, k, hk => by omega
  | n + 1, h, k, hk => by
    have l := zcnt_le p n
    by_cases e : p n = true
    · rw [zcnt_t e] at h
      by_cases z : k = n
      · rw [z]; exact e
      · exact zcnt_full (n := n) (by omega) k (by omega)
    · rw [zcnt_f (Bool.eq_false_iff.mpr e)] at h; omega
theorem zun_inj {B : Nat} {q : Nat → Bool} {f : Nat → Int} : ∀ n, (∀ i, i < n → q i = true → 0 ≤ f i ∧ f i < B) → (∀ i j, i < n → j < n → q i = true → q j = true → f i = f j → i = j) → zun B q f n = zcnt q n
  | 0, _, _ => zun_0 _ _ _
  | n + 1, h, inj => by
    rw [zun_s (fun e => h n (by omega) e), zun_inj n (fun i hi => h i (by omega)) (fun i j hi hj => inj i j (by omega) (by omega))]
    by_cases e : q n = true
    · have c : q n = true ∧ ∀ i, i < n → q i = true → f i ≠ f n := ⟨e, fun i hi qi y => by have := inj i n (by omega) (by omega) qi e y; omega⟩
      rw [zcnt_t e, if_pos c]
    · have c : ¬ (q n = true ∧ ∀ i, i < n → q i = true → f i ≠ f n) := fun y => e y.1
      rw [zcnt_f (Bool.eq_false_iff.mpr e), if_neg c, Nat.add_zero]
theorem zPg.hit (h : zPg S) (q : Int) {p : Nat} (hp : p < zcnt (fun j => decide (S 2 j = q)) (zN S)) : ∃ j, j < zN S ∧ S 2 j = q ∧ S 3 j = p := by
  have A := zun_inj (B := zcnt (fun j => decide (S 2 j = q)) (zN S)) (q := fun j => decide (S 2 j = q)) (f := S 3) (zN S) (fun i hi qi => by
    have e := of_decide_eq_true qi
    have t := h.1 i hi
    rw [e] at t
    exact t) (fun i j hi hj qi qj e => h.2 i j hi hj (by rw [of_decide_eq_true qi, of_decide_eq_true qj]) e)
  unfold zun at A
  have t := zcnt_full A p hp
  obtain ⟨i, hi, y⟩ := zany_iff.mp t
  rw [Bool.and_eq_true] at y
  exact ⟨i, hi, of_decide_eq_true y.1, of_decide_eq_true y.2⟩
theorem zPg.pl (h : zPg S) (hN : zN S ≤ 12) : (∀ k, k < zN S → 0 ≤ S 3 k ∧ S 3 k < 12 ∧ zch S (S 2 k) (S 3 k) = k) ∧ (∀ (q : Int) (p p' : Nat), p ≤ p' → zch S q p = -1 → zch S q p' = -1) := by
  refine ⟨fun k hk => ?_, fun q p p' hp e => ?_⟩
  · have a := h.1 k hk
    have l := zcnt_le (fun j => decide (S 2 j = S 2 k)) (zN S)
    refine ⟨a.1, by omega, ?_⟩
    unfold zch
    rcases zfst_spec (p := fun j => decide (S 2 j = S 2 k ∧ S 3 j = S 3 k)) (n := zN S) with ⟨-, b⟩ | ⟨i, e, hi, b, -⟩
    · exact absurd (⟨rfl, rfl⟩ : S 2 k = S 2 k ∧ S 3 k = S 3 k) (of_decide_eq_false (b k hk))
    · have c := of_decide_eq_true b
      rw [e, h.2 i k hi hk c.1 c.2]
  · by_cases z : zch S q p' = -1
    · exact z
    · exfalso
      obtain ⟨i, e1, hi, i2, i3⟩ := (zch_lt S q p').resolve_left z
      have a := h.1 i hi
      rw [i2, i3] at a
      obtain ⟨j, hj, j2, j3⟩ := h.hit q (p := p) (by omega)
      unfold zch at e
      rcases zfst_spec (p := fun j => decide (S 2 j = q ∧ S 3 j = (p : Int))) (n := zN S) with ⟨-, b⟩ | ⟨i, e, hi, b, -⟩
      · exact absurd (⟨j2, j3⟩ : S 2 j = q ∧ S 3 j = (p : Int)) (of_decide_eq_false (b j hj))
      · omega
/-- what a Show of the class is between two calls -/
def zFin (S : zSt) : Prop := zGood S 0 ∧ zVt S ∧ ∀ k, k < zN S → (0 ≤ S 7 (9 * k + 6) ∧ S 7 (9 * k + 6) ≤ 9) ∧ (zby (S 4 k) = false → S 5 k = -1)
def zFine (S : zSt) : Prop := zFin S ∧ zlast S ≤ 1999
/-- the same numbers at all places that are there -/
def zSame2 (A B : zSt) : Prop := (A 0 0 = B 0 0 ∧ A 0 8 = B 0 8) ∧ (∀ r, 1 ≤ r → r ≤ 6 → ∀ k, k < 12 → A r k = B r k) ∧ (∀ k, k < 108 → A 7 k = B 7 k) ∧ ∀ i, i < 6 → A 8 i = B 8 i ∧ A 9 i = B 9 i
theorem zSame2.rf (A : zSt) : zSame2 A A := ⟨⟨rfl, rfl⟩, fun _ _ _ _ _ => rfl, fun _ _ => rfl, fun _ _ => ⟨rfl, rfl⟩⟩
theorem zSame2.sym {A B : zSt} (h : zSame2 A B) : zSame2 B A := ⟨⟨h.1.1.symm, h.1.2.symm⟩, fun r h1 h2 k hk => (h.2.1 r h1 h2 k hk).symm, fun k hk => (h.2.2.1 k hk).symm, fun i hi => ⟨(h.2.2.2 i hi).1.symm, (h.2.2.2 i hi).2.symm⟩⟩
theorem zSame2.tr {A B C : zSt} (h : zSame2 A B) (g : zSame2 B C) : zSame2 A C := ⟨⟨h.1.1.trans g.1.1, h.1.2.trans g.1.2⟩, fun r h1 h2 k hk => (h.2.1 r h1 h2 k hk).trans (g.2.1 r h1 h2 k hk), fun k hk => (h.2.2.1 k hk).trans (g.2.2.1 k hk), fun i hi => ⟨(h.2.2.2 i hi).1.trans (g.2.2.2 i hi).1, (h.2.2.2 i hi).2.trans (g.2.2.2 i hi).2⟩⟩
theorem zSame2.good {A B : zSt} (h : zSame2 A B) (g : zGood B 0) : zGood A 0 := by
  obtain ⟨g1, g2, g3, g4⟩ := g
  refine ⟨by rw [h.1.1, h.1.2]; exact g1, fun k hk => ?_, fun k hk => ?_, fun i hi => ?_⟩
  · rw [h.2.1 (0 + 1) (by decide) (by decide) k hk, h.2.1 (0 + 2) (by decide) (by decide) k hk, h.2.1 (0 + 3) (by decide) (by decide) k hk, h.2.1 (0 + 4) (by decide) (by decide) k hk, h.2.1 (0 + 5) (by decide) (by decide) k hk, h.2.1 (0 + 6) (by decide) (by decide) k hk]
    exact g2 k hk
  · rw [h.2.2.1 k hk]; exact g3 k hk
  · rw [(h.2.2.2 i hi).1, (h.2.2.2 i hi).2]; exact g4 i hi
theorem zSame2.eqv {A B : zSt} (h : zSame2 A B) (g : zGood B 0) : zEqv B A := by
  have g1 := g.1
  have hz : zN B = (B 0 0).toNat := rfl
  exact ⟨⟨h.1.1, h.1.2⟩, fun k hk r h1 h2 => h.2.1 r h1 h2 k (by omega), fun k hk w hw => h.2.2.1 _ (by omega), fun i hi => h.2.2.2 i (by omega)⟩
theorem zEqv.last {A B : zSt} (hB : zVt B) (E : zEqv B A) (h0 : 0 ≤ B 0 0) : zlast A = zlast B := by
  unfold zlast
  rw [E.1.1]
  by_cases z : B 0 0 = 0
  · rw [if_pos z, if_pos z]
  · have hz : zN B = (B 0 0).toNat := rfl
    rw [if_neg z, if_neg z, zsa_eqv hB E, E.2.1 0 (by omega) 6 (by decide) (by decide)]
theorem zSame2.fin {A B : zSt} (h : zSame2 A B) (g : zFin B) : zFin A := by
  have E := h.eqv g.1
  have g1 := g.1.1
  refine ⟨h.good g.1, g.2.1.eqv E, fun k hk => ?_⟩
  rw [E.n] at hk
  have k12 : k < 12 := by have hz : zN B = (B 0 0).toNat := rfl; omega
  rw [h.2.2.1 _ (by omega), h.2.1 4 (by decide) (by decide) k k12, h.2.1 5 (by decide) (by decide) k k12]
  exact g.2.2 k hk
theorem zSame2.fine {A B : zSt} (h : zSame2 A B) (g : zFine B) : zFine A := ⟨h.fin g.1, by
  rw [zEqv.last g.1.2.1 (h.eqv g.1.1) g.1.1.1.1]; exact g.2⟩
theorem zGood_v {σ : zSt} {b : Nat} : zGood (zSv σ b) 0 ↔ zGood σ b := by
  unfold zGood zSv
  simp only [Nat.zero_add, Nat.add_zero]
theorem zCopy.sm {σ σ' : zSt} {b f : Nat} (h : zCopy σ σ' b f) : zSame2 (zSv σ' b) (zSv σ f) := ⟨⟨h.1, h.2.1⟩, h.2.2.1, h.2.2.2.1, h.2.2.2.2.1⟩
theorem zSv_0 (σ : zSt) (b : Nat) : zSv σ b 0 = σ b := rfl
end PG
