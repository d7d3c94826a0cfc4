/-! WHAT HOLDS WHILE READING -/
def zuo (ar : Nat → Int) : Nat → Int → Int
  | 0, x => x
  | k + 1, x => zuo ar k (if x < 0 then x else ar x.toNat)
/-- clip p is open when x is the innermost open one -/
def zOpn (ar : Nat → Int) (x p : Int) : Prop := ∃ k, zuo ar k x = p
theorem zuo_neg {ar : Nat → Int} {x : Int} (h : x < 0) : ∀ k, zuo ar k x = x := by
  intro k
  induction k with
  | zero => rfl
  | succ k ih => show zuo ar k (if x < 0 then x else _) = x; rw [if_pos h]; exact ih
theorem zOpn_rf (ar : Nat → Int) (x : Int) : zOpn ar x x := ⟨0, rfl⟩
theorem zOpn_in {ar : Nat → Int} {x p : Int} (h0 : 0 ≤ x) (h : zOpn ar (ar x.toNat) p) : zOpn ar x p := by
  obtain ⟨k, e⟩ := h
  exact ⟨k + 1, by show zuo ar k (if x < 0 then x else ar x.toNat) = p; rw [if_neg (by omega)]; exact e⟩
theorem zOpn_out {ar : Nat → Int} {x p : Int} (h0 : 0 ≤ x) (h : zOpn ar x p) : p = x ∨ zOpn ar (ar x.toNat) p := by
  obtain ⟨k, e⟩ := h
  cases k with
  | zero => exact Or.inl e.symm
  | succ k =>
    refine Or.inr ⟨k, ?_⟩
    have e : zuo ar k (if x < 0 then x else ar x.toNat) = p := e
    rw [if_neg (by omega)] at e; exact e
theorem zuo_le {ar : Nat → Int} {N : Nat} (hp : ∀ j, j < N → ar j < (j : Int)) : ∀ k x, x < (N : Int) → zuo ar k x ≤ x := by
  intro k
  induction k with
  | zero => intro x _; exact Int.le_refl _
  | succ k ih =>
    intro x hx
    show zuo ar k (if x < 0 then x else ar x.toNat) ≤ x
    by_cases h : x < 0
    · rw [if_pos h]; exact ih x hx
    · rw [if_neg h]
      have g := hp x.toNat (by omega)
      have := ih (ar x.toNat) (by omega)
      omega
theorem zOpn_le {ar : Nat → Int} {N : Nat} {x p : Int} (hp : ∀ j, j < N → ar j < (j : Int)) (hx : x < (N : Int)) (h : zOpn ar x p) : p ≤ x := by
  obtain ⟨k, e⟩ := h
  rw [← e]; exact zuo_le hp k x hx
theorem zuo_cg {ar ar' : Nat → Int} {N : Nat} (hp : ∀ j, j < N → ar j < (j : Int)) (he : ∀ j, j < N → ar' j = ar j) : ∀ k x, x < (N : Int) → zuo ar' k x = zuo ar k x := by
  intro k
  induction k with
  | zero => intro x _; rfl
  | succ k ih =>
    intro x hx
    show zuo ar' k (if x < 0 then x else ar' x.toNat) = zuo ar k (if x < 0 then x else ar x.toNat)
    by_cases h : x < 0
    · rw [if_pos h, if_pos h]; exact ih x hx
    · rw [if_neg h, if_neg h, he _ (by omega)]
      have g := hp x.toNat (by omega)
      exact ih _ (by omega)
theorem zOpn_cg {ar ar' : Nat → Int} {N : Nat} {x p : Int} (hp : ∀ j, j < N → ar j < (j : Int)) (he : ∀ j, j < N → ar' j = ar j) (hx : x < (N : Int)) : zOpn ar' x p ↔ zOpn ar x p := by
  unfold zOpn
  constructor
  · rintro ⟨k, e⟩; exact ⟨k, by rw [← zuo_cg hp he k x hx]; exact e⟩
  · rintro ⟨k, e⟩; exact ⟨k, by rw [zuo_cg hp he k x hx]; exact e⟩
def zAv (A : zAb) : Prop := zFin (zneu A.D) ∧ (A.op ≠ -1 → A.D 1 A.op.toNat ≠ 0) ∧ (zN A.D = 0 → A.op = -1) ∧ (A.mk ≠ -1 → A.D 2 A.mk.toNat = A.op ∧ A.mk + 1 = A.D 0 0) ∧ (∀ j, zunb A.D j → 0 ≤ A.D 2 j ∧ A.D 1 (A.D 2 j).toNat = 1 ∧ zOpn (A.D 2) A.op (A.D 2 j)) ∧ (∀ i j, i < zN A.D → j < zN A.D → A.nm i = A.nm j → i = j) ∧ (∀ j, j < zN A.D → zby (A.D 4 j) = true → zOpn (A.D 2) A.op (A.D 2 j) → A.D 5 j = -1)
theorem zAv.tree {A : zAb} (h : zAv A) : ∀ j, j < zN A.D → A.D 2 j < (j : Int) ∧ -1 ≤ A.D 2 j ∧ (j = 0 ↔ A.D 2 j = -1) := by
  obtain ⟨d, r, hv⟩ := h.1.2.1.1
  intro j hj
  have := hv.2.1 j (by rw [zneu_N]; exact hj)
  rw [zneu_o _ (by decide)] at this; exact this
theorem zAv.par {A : zAb} (h : zAv A) : ∀ j, j < zN A.D → A.D 2 j < (j : Int) := fun j hj => (h.tree j hj).1
theorem zAv.knd {A : zAb} (h : zAv A) : ∀ j, j < zN A.D → 0 < j → A.D 1 (A.D 2 j).toNat ≠ 0 := by
  obtain ⟨d, r, hv⟩ := h.1.2.1.1
  intro j hj h0
  have := (hv.2.2.1 j (by rw [zneu_N]; exact hj)).2.2.2.1 h0
  rw [zneu_o _ (by decide), zneu_o _ (by decide)] at this; exact this
/-- the token alone, or what has been told, changes -/
theorem zAv.tok {A : zAb} {q td : Nat} {sn : Nat → Int} (h : zAv A) : zAv (zAm q A.D A.nm sn td A.op A.mk) := h
/-- a mark -/
theorem zAv.m7 {A : zAb} {k w q : Nat} {v : Int} (h : zAv A) (hk : k < zN A.D) (hw : w < 9) (hv : zmr w v) : zAv (zAm q (zs A.D 7 (9 * k + w) v) A.nm A.sn A.td A.op A.mk) := by
  obtain ⟨h1, h2, h3, h4, h5, h6, h7⟩ := h
  have o : ∀ r, r ≠ 7 → zs A.D 7 (9 * k + w) v r = A.D r := fun r hr => zs_other hr
  have eN : zN (zs A.D 7 (9 * k + w) v) = zN A.D := by unfold zN; rw [o 0 (by decide)]
  refine ⟨?_, ?_, ?_, ?_, ?_, ?_, ?_⟩
  · show zFin (zneu (zs A.D 7 (9 * k + w) v))
    rw [zneu_7]
    exact zOpM_fin h1 (by rw [zneu_N]; exact hk) hw hv
  · show A.op ≠ -1 → zs A.D 7 (9 * k + w) v 1 A.op.toNat ≠ 0
    rw [o 1 (by decide)]; exact h2
  · show zN (zs A.D 7 (9 * k + w) v) = 0 → A.op = -1
    rw [eN]; exact h3
  · show A.mk ≠ -1 → zs A.D 7 (9 * k + w) v 2 A.mk.toNat = A.op ∧ A.mk + 1 = zs A.D 7 (9 * k + w) v 0 0
    rw [o 2 (by decide), o 0 (by decide)]; exact h4
  · intro j hj
    show 0 ≤ zs A.D 7 (9 * k + w) v 2 j ∧ zs A.D 7 (9 * k + w) v 1 (zs A.D 7 (9 * k + w) v 2 j).toNat = 1 ∧ zOpn (zs A.D 7 (9 * k + w) v 2) A.op (zs A.D 7 (9 * k + w) v 2 j)
    rw [o 2 (by decide), o 1 (by decide)]; exact h5 j (zunb_7.mp hj)
  · intro i j hi hj
    have hi : i < zN (zs A.D 7 (9 * k + w) v) := hi
    have hj : j < zN (zs A.D 7 (9 * k + w) v) := hj
    rw [eN] at hi hj; exact h6 i j hi hj
  · intro j hj
    have hj : j < zN (zs A.D 7 (9 * k + w) v) := hj
    rw [eN] at hj
    show zby (zs A.D 7 (9 * k + w) v 4 j) = true → zOpn (zs A.D 7 (9 * k + w) v 2) A.op (zs A.D 7 (9 * k + w) v 2 j) → zs A.D 7 (9 * k + w) v 5 j = -1
    rw [o 4 (by decide), o 2 (by decide), o 5 (by decide)]; exact h7 j hj
/-- a start of the clip whose marks are read -/
theorem zAv.m456 {A : zAb} {k q : Nat} {h m : Int} (hA : zAv A) (hmk : A.mk = (k : Int)) (hk : k < zN A.D) (hh : 0 ≤ h ∧ h ≤ 3) (hm : 0 ≤ m ∧ m ≤ 999) (hp : h ≠ 0 → A.D 2 k ≠ -1 ∧ A.D 1 (A.D 2 k).toNat = 1) : zAv (zAm q (zs (zs (zs A.D 4 k h) 5 k (-1)) 6 k m) A.nm A.sn A.td A.op A.mk) := by
  have hpar := hA.tree
  obtain ⟨h1, h2, h3, h4, h5, h6, h7⟩ := hA
  obtain ⟨q0, q4, q5, q6⟩ := zOpS_r A.D k h (-1) m
  have eD : zs (zs (zs A.D 4 k h) 5 k (-1)) 6 k m = zOpS A.D k h (-1) m := rfl
  rw [eD]
  have eN : zN (zOpS A.D k h (-1) m) = zN A.D := by unfold zN; rw [q0 0 (by decide) (by decide) (by decide)]
  have e1 := q0 1 (by decide) (by decide) (by decide)
  have e2 := q0 2 (by decide) (by decide) (by decide)
  have mk4 := h4 (by omega)
  have ek : A.mk.toNat = k := by omega
  rw [ek] at mk4
  have t := hpar k hk
  refine ⟨?_, ?_, ?_, ?_, ?_, ?_, ?_⟩
  · show zFin (zneu (zOpS A.D k h (-1) m))
    rw [zneu_S hk]
    refine zOpS_fin h1 (by rw [zneu_N]; exact hk) ?_ hm ?_ ?_ (fun _ => rfl)
    · split <;> omega
    · intro y
      rw [zneu_o _ (by decide), zneu_o _ (by decide)]
      refine hp (fun z => y ?_)
      rw [z]; rfl
    · intro y
      by_cases b : zby h = true
      · rw [if_pos b] at y; exact absurd y (by decide)
      · rw [if_neg b] at y; exact absurd y b
  · show A.op ≠ -1 → zOpS A.D k h (-1) m 1 A.op.toNat ≠ 0
    rw [e1]; exact h2
  · show zN (zOpS A.D k h (-1) m) = 0 → A.op = -1
    rw [eN]; exact h3
  · show A.mk ≠ -1 → zOpS A.D k h (-1) m 2 A.mk.toNat = A.op ∧ A.mk + 1 = zOpS A.D k h (-1) m 0 0
    rw [e2, q0 0 (by decide) (by decide) (by decide)]; exact h4
  · intro j hj
    show 0 ≤ zOpS A.D k h (-1) m 2 j ∧ zOpS A.D k h (-1) m 1 (zOpS A.D k h (-1) m 2 j).toNat = 1 ∧ zOpn (zOpS A.D k h (-1) m 2) A.op (zOpS A.D k h (-1) m 2 j)
    obtain ⟨j1, j2, j3⟩ : zunb (zOpS A.D k h (-1) m) j := hj
    rw [eN] at j1; rw [q4] at j2; rw [q5] at j3; rw [e1, e2]
    by_cases w : j = k
    · subst w
      rw [zu_eq] at j2
      have p := hp (fun z => by rw [z] at j2; exact absurd j2 (by decide))
      exact ⟨by omega, p.2, by rw [mk4.1]; exact zOpn_rf _ _⟩
    · rw [zu_ne w] at j2 j3
      exact h5 j ⟨j1, j2, j3⟩
  · intro i j hi hj
    have hi : i < zN (zOpS A.D k h (-1) m) := hi
    have hj : j < zN (zOpS A.D k h (-1) m) := hj
    rw [eN] at hi hj; exact h6 i j hi hj
  · intro j hj
    have hj : j < zN (zOpS A.D k h (-1) m) := hj
    rw [eN] at hj
    show zby (zOpS A.D k h (-1) m 4 j) = true → zOpn (zOpS A.D k h (-1) m 2) A.op (zOpS A.D k h (-1) m 2 j) → zOpS A.D k h (-1) m 5 j = -1
    rw [q4, q5, e2]
    by_cases w : j = k
    · rw [w, zu_eq, zu_eq]; intros; rfl
    · rw [zu_ne w, zu_ne w]; exact h7 j hj
/-- the sign behind the marks -/
theorem zAv.sgn {A : zAb} {k q : Nat} (hA : zAv A) (hmk : A.mk = (k : Int)) (hk : k < zN A.D) : zAv (zAm q A.D A.nm A.sn A.td (if A.D 1 k = 0 then A.op else (k : Int)) (-1)) := by
  have hpar := hA.par
  obtain ⟨h1, h2, h3, h4, h5, h6, h7⟩ := hA
  have mk4 := h4 (by omega)
  rw [show A.mk.toNat = k by omega] at mk4
  have hN : zN A.D = (A.D 0 0).toNat := rfl
  refine ⟨h1, ?_, ?_, fun y => absurd rfl y, ?_, h6, ?_⟩
  · show (if A.D 1 k = 0 then A.op else (k : Int)) ≠ -1 → A.D 1 (if A.D 1 k = 0 then A.op else (k : Int)).toNat ≠ 0
    split
    · exact h2
    · rw [Int.toNat_natCast]; intro _; assumption
  · show zN A.D = 0 → (if A.D 1 k = 0 then A.op else (k : Int)) = -1
    omega
  · intro j hj
    obtain ⟨g1, g2, g3⟩ := h5 j hj
    refine ⟨g1, g2, ?_⟩
    show zOpn (A.D 2) (if A.D 1 k = 0 then A.op else (k : Int)) (A.D 2 j)
    split
    · exact g3
    · refine zOpn_in (by omega) ?_
      rw [Int.toNat_natCast, mk4.1]; exact g3
  · intro j hj b
    show zOpn (A.D 2) (if A.D 1 k = 0 then A.op else (k : Int)) (A.D 2 j) → A.D 5 j = -1
    split
    · exact h7 j hj b
    · intro y
      rcases zOpn_out (by omega) y with z | z
      · have := hpar j hj
        have hj : j < zN A.D := hj
        omega
      · rw [Int.toNat_natCast, mk4.1] at z
        exact h7 j hj b z
