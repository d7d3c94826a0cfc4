/-! a clip goes, in the reference -/
section LO
variable {S : zSt} {d r : Nat → Nat} {k : Nat} {c R : Nat → Int}
theorem zLo_iff (hv : zVal S d r) (hk : k < zN S) {j : Nat} (hj : j < zN S) : (zKe S k j = true ∧ zby (S 4 j) = true ∧ zwi (S 2) k 12 (S 5 j).toNat = true) ↔ (zby (S 4 j) = true ∧ S 5 j = (k : Int)) := by
  have v1 := hv.1.1
  constructor
  · rintro ⟨h1, h2, h3⟩
    have o := hv.oth hj h2
    refine ⟨h2, ?_⟩
    by_cases z : (S 5 j).toNat = k
    · omega
    · have q := zKe_sib hv hj o.2.1 h1 o.2.2.1 z
      unfold zKe at q
      rw [h3] at q
      exact absurd q (by decide)
  · rintro ⟨h2, h3⟩
    have o := hv.oth hj h2
    have e : (S 5 j).toNat = k := by omega
    rw [e] at o ⊢
    have tk := hv.2.1 k hk
    have tj := hv.2.1 j hj
    refine ⟨?_, h2, by rw [zwi_s, if_pos rfl]⟩
    unfold zKe
    have jk : j ≠ k := fun y => by rw [y] at o; omega
    rw [zwi_s, if_neg jk]
    by_cases y : S 2 j = -1
    · rw [if_pos y]; rfl
    · rw [if_neg y, zwi_small (N := zN S) (fun k hk => (hv.2.1 k hk).1) (fun k hk => (hv.2.1 k hk).2.1) 11 _ (by omega) (by omega)]; rfl
/-- the places, of those below i -/
def zplr (c : Nat → Int) (S : zSt) (k i : Nat) : Nat → Int := fun j => if 26 ≤ j ∧ j < 26 + i then zpl S 0 k (j - 26) else c j
theorem zplr_0 (c : Nat → Int) (S : zSt) (k : Nat) : zplr c S k 0 = c := by funext j; unfold zplr; rw [if_neg (by omega)]
theorem zplr_s (c : Nat → Int) (S : zSt) (k i : Nat) {v : Int} (hv : v = zpl S 0 k i) : zu (zplr c S k i) (26 + i) v = zplr c S k (i + 1) := by
  funext j
  by_cases z : j = 26 + i
  · rw [z, zu_eq]; unfold zplr; rw [if_pos (by omega), show 26 + i - 26 = i by omega]; exact hv
  · rw [zu_ne z]; unfold zplr
    by_cases y : 26 ≤ j ∧ j < 26 + i
    · rw [if_pos y, if_pos (by omega)]
    · rw [if_neg y, if_neg (by omega)]
/-- clip e stands at t as it must in the end; clip e stands as it did, but for its place -/
def zLf (R : Nat → Int) (S : zSt) (k t e : Nat) : Prop := R (2 + t) = S 1 e ∧ R (14 + t) = (if S 2 e = -1 then -1 else (zcnt (zKe S k) (S 2 e).toNat : Int)) ∧ R (26 + t) = zpl S 0 k e ∧ R (146 + t) = S 4 e ∧ R (158 + t) = (if S 5 e = -1 then -1 else (zcnt (zKe S k) (S 5 e).toNat : Int)) ∧ R (170 + t) = S 6 e ∧ ∀ u, u < 9 → R (38 + 9 * t + u) = S 7 (9 * e + u)
def zLb (R : Nat → Int) (S : zSt) (k e : Nat) : Prop := R (2 + e) = S 1 e ∧ R (14 + e) = S 2 e ∧ R (26 + e) = zpl S 0 k e ∧ R (146 + e) = S 4 e ∧ R (158 + e) = S 5 e ∧ R (170 + e) = S 6 e ∧ ∀ u, u < 9 → R (38 + 9 * e + u) = S 7 (9 * e + u)
def zLi2 (c R : Nat → Int) (S : zSt) (k i : Nat) : Prop := (∀ j, (j < 2 ∨ 182 ≤ j) → R j = c j) ∧ (∀ e, e < i → zKe S k e = true → zLf R S k (zcnt (zKe S k) e) e) ∧ ∀ e, zcnt (zKe S k) i ≤ e → e < zN S → zLb R S k e
theorem zLi2_no {i : Nat} (h : zLi2 c R S k i) (hK : zKe S k i = false) : zLi2 c R S k (i + 1) := by
  obtain ⟨h1, h2, h3⟩ := h
  refine ⟨h1, fun e he hke => ?_, fun e he => ?_⟩
  · by_cases z : e = i
    · rw [z, hK] at hke; exact absurd hke (by decide)
    · exact h2 e (by omega) hke
  · rw [zcnt_f hK] at he; exact h3 e he
theorem zLi2_yes {i : Nat} {a b : Int} {R' : Nat → Int} (h : zLi2 c R S k i) (hN : zN S ≤ 12) (hi : i < zN S) (hK : zKe S k i = true) (ha : a = (if S 2 i = -1 then -1 else (zcnt (zKe S k) (S 2 i).toNat : Int))) (hb : b = (if S 5 i = -1 then -1 else (zcnt (zKe S k) (S 5 i).toNat : Int)))
    (hR : R' = zu (zu (zwc R 0 (zcnt (zKe S k) i) (R (0 + 2 + i)) (R (0 + 14 + i)) (R (0 + 26 + i)) (R (0 + 146 + i)) (R (0 + 158 + i)) (R (0 + 170 + i)) (fun u => R (0 + 38 + 9 * i + u))) (14 + zcnt (zKe S k) i) a) (158 + zcnt (zKe S k) i) b) : zLi2 c R' S k (i + 1) := by
  obtain ⟨h1, h2, h3⟩ := h
  have cl := zcnt_le (zKe S k) i
  obtain ⟨n, en⟩ : ∃ n, n = zcnt (zKe S k) i := ⟨_, rfl⟩
  rw [← en] at hR h3 cl
  obtain ⟨b1, b2, b3, b4, b5, b6, b7⟩ := h3 i cl hi
  have out : ∀ j, j ≠ 0 + 2 + n → j ≠ 0 + 14 + n → j ≠ 0 + 26 + n → j ≠ 0 + 146 + n → j ≠ 0 + 158 + n → j ≠ 0 + 170 + n → (j < 0 + 38 + 9 * n ∨ 0 + 38 + 9 * n + 9 ≤ j) → R' j = R j := fun j q1 q2 q3 q4 q5 q6 q7 => by
    rw [hR, zu_ne (by omega), zu_ne (by omega), zwc_o q1 q2 q3 q4 q5 q6 q7]
  have i1 : R' (2 + n) = S 1 i := by
    rw [hR, zu_ne (by omega), zu_ne (by omega), show 2 + n = 0 + 2 + n by omega, zwc_1 (by omega), show 0 + 2 + i = 2 + i by omega]; exact b1
  have i3 : R' (26 + n) = zpl S 0 k i := by
    rw [hR, zu_ne (by omega), zu_ne (by omega), show 26 + n = 0 + 26 + n by omega, zwc_3 (by omega), show 0 + 26 + i = 26 + i by omega]; exact b3
  have i4 : R' (146 + n) = S 4 i := by
    rw [hR, zu_ne (by omega), zu_ne (by omega), show 146 + n = 0 + 146 + n by omega, zwc_4 (by omega), show 0 + 146 + i = 146 + i by omega]; exact b4
  have i6 : R' (170 + n) = S 6 i := by
    rw [hR, zu_ne (by omega), zu_ne (by omega), show 170 + n = 0 + 170 + n by omega, zwc_6 (by omega), show 0 + 170 + i = 170 + i by omega]; exact b6
  have i7 : ∀ u, u < 9 → R' (38 + 9 * n + u) = S 7 (9 * i + u) := fun u hu => by
    rw [hR, zu_ne (by omega), zu_ne (by omega), show 38 + 9 * n + u = 0 + 38 + 9 * n + u by omega, zwc_7 (by omega) hu]
    rw [show 0 + 38 + 9 * i + u = 38 + 9 * i + u by omega]; exact b7 u hu
  have i2 : R' (14 + n) = a := by rw [hR, zu_ne (by omega), zu_eq]
  have i5 : R' (158 + n) = b := by rw [hR, zu_eq]
  refine ⟨fun j hj => by rw [out j (by omega) (by omega) (by omega) (by omega) (by omega) (by omega) (by omega)]; exact h1 j hj, fun e he hke => ?_, fun e he heN => ?_⟩
  · by_cases z : e = i
    · rw [z, ← en]
      exact ⟨i1, by rw [i2]; exact ha, i3, i4, by rw [i5]; exact hb, i6, i7⟩
    · have lt := zcnt_lt (p := zKe S k) (q := e) (i := i) (by omega) hke
      obtain ⟨f1, f2, f3, f4, f5, f6, f7⟩ := h2 e (by omega) hke
      rw [← en] at lt
      have O : ∀ j, (j = 2 + zcnt (zKe S k) e ∨ j = 14 + zcnt (zKe S k) e ∨ j = 26 + zcnt (zKe S k) e ∨ j = 146 + zcnt (zKe S k) e ∨ j = 158 + zcnt (zKe S k) e ∨ j = 170 + zcnt (zKe S k) e ∨ (38 + 9 * zcnt (zKe S k) e ≤ j ∧ j < 38 + 9 * zcnt (zKe S k) e + 9)) → R' j = R j := fun j hj => out j (by omega) (by omega) (by omega) (by omega) (by omega) (by omega) (by omega)
      exact ⟨by rw [O _ (by omega)]; exact f1, by rw [O _ (by omega)]; exact f2, by rw [O _ (by omega)]; exact f3, by rw [O _ (by omega)]; exact f4, by rw [O _ (by omega)]; exact f5, by rw [O _ (by omega)]; exact f6, fun u hu => by rw [O _ (by omega)]; exact f7 u hu⟩
  · rw [zcnt_t hK, ← en] at he
    obtain ⟨f1, f2, f3, f4, f5, f6, f7⟩ := h3 e (by omega) heN
    have O : ∀ j, (j = 2 + e ∨ j = 14 + e ∨ j = 26 + e ∨ j = 146 + e ∨ j = 158 + e ∨ j = 170 + e ∨ (38 + 9 * e ≤ j ∧ j < 38 + 9 * e + 9)) → R' j = R j := fun j hj => out j (by omega) (by omega) (by omega) (by omega) (by omega) (by omega) (by omega)
    exact ⟨by rw [O _ (by omega)]; exact f1, by rw [O _ (by omega)]; exact f2, by rw [O _ (by omega)]; exact f3, by rw [O _ (by omega)]; exact f4, by rw [O _ (by omega)]; exact f5, by rw [O _ (by omega)]; exact f6, fun u hu => by rw [O _ (by omega)]; exact f7 u hu⟩
theorem zLi2_0 (hN : zN S ≤ 12 ∧ (S 0 8).toNat ≤ 6) (E : zEqv S (zMw c 0)) : zLi2 c (zplr c S k (zN S)) S k 0 := by
  have o : ∀ j, (j < 26 ∨ 26 + zN S ≤ j) → zplr c S k (zN S) j = c j := fun j hj => by unfold zplr; rw [if_neg (by omega)]
  have E1 := E.2.1
  refine ⟨fun j hj => o j (by omega), fun e he => absurd he (Nat.not_lt_zero _), fun e _ heN => ?_⟩
  have q : ∀ r (h1 : 1 ≤ r) (h2 : r ≤ 6), c (0 + zmO r + e) = S r e := fun r h1 h2 => by
    have := E1 e heN r h1 h2
    unfold zMw at this
    rw [if_neg (by omega)] at this
    exact this
  refine ⟨?_, ?_, ?_, ?_, ?_, ?_, fun u hu => ?_⟩
  · rw [o _ (by omega)]; have := q 1 (by decide) (by decide); rw [Nat.zero_add] at this; exact this
  · rw [o _ (by omega)]; have := q 2 (by decide) (by decide); rw [Nat.zero_add] at this; exact this
  · unfold zplr; rw [if_pos (by omega), show 26 + e - 26 = e by omega]
  · rw [o _ (by omega)]; have := q 4 (by decide) (by decide); rw [Nat.zero_add] at this; exact this
  · rw [o _ (by omega)]; have := q 5 (by decide) (by decide); rw [Nat.zero_add] at this; exact this
  · rw [o _ (by omega)]; have := q 6 (by decide) (by decide); rw [Nat.zero_add] at this; exact this
  · rw [o _ (by omega)]
    have := E.2.2.1 e heN u hu
    have t : c (0 + 38 + (9 * e + u)) = S 7 (9 * e + u) := this
    rw [← t, show 0 + 38 + (9 * e + u) = 38 + 9 * e + u by omega]
theorem zLi2_los (E : zEqv S (zMw c 0)) (h : zLi2 c R S k (zN S)) : zLos S (zMw (zu R 0 (zcnt (zKe S k) (zN S) : Int)) 0) k := by
  obtain ⟨h1, h2, -⟩ := h
  have cl := zcnt_le (zKe S k) (zN S)
  refine ⟨⟨?_, ?_⟩, fun i hi hK => ?_, fun i hi => ?_⟩
  · show zu R 0 (zcnt (zKe S k) (zN S) : Int) 0 = (zcnt (zKe S k) (zN S) : Int)
    rw [zu_eq]
  · show zu R 0 (zcnt (zKe S k) (zN S) : Int) 1 = _
    rw [zu_ne (by decide), h1 1 (by omega)]; exact E.1.2
  · obtain ⟨f1, f2, f3, f4, f5, f6, f7⟩ := h2 i hi hK
    have t : ∀ j, j ≠ 0 → zu R 0 (zcnt (zKe S k) (zN S) : Int) j = R j := fun j hj => zu_ne hj
    refine ⟨?_, ?_, ?_, ?_, ?_, ?_, fun u hu => ?_⟩
    · show zu R 0 _ (0 + 2 + _) = _; rw [t _ (by omega), Nat.zero_add]; exact f1
    · show zu R 0 _ (0 + 14 + _) = _; rw [t _ (by omega), Nat.zero_add]; exact f2
    · show zu R 0 _ (0 + 26 + _) = _; rw [t _ (by omega), Nat.zero_add]; exact f3
    · show zu R 0 _ (0 + 146 + _) = _; rw [t _ (by omega), Nat.zero_add]; exact f4
    · show zu R 0 _ (0 + 158 + _) = _; rw [t _ (by omega), Nat.zero_add]; exact f5
    · show zu R 0 _ (0 + 170 + _) = _; rw [t _ (by omega), Nat.zero_add]; exact f6
    · show zu R 0 _ (0 + 38 + (9 * _ + u)) = _; rw [t _ (by omega), show 0 + 38 + (9 * zcnt (zKe S k) i + u) = 38 + 9 * zcnt (zKe S k) i + u by omega]; exact f7 u hu
  · have e := E.2.2.2 i hi
    show zu R 0 _ (0 + 182 + i) = _ ∧ zu R 0 _ (0 + 188 + i) = _
    rw [zu_ne (by omega), zu_ne (by omega), h1 _ (by omega), h1 _ (by omega)]; exact e
end LO
theorem w4_Md_lose {G : zG} {X : zX} {n : Nat} {σ : zSt} {τ φ ω : zSt} {d r : Nat → Nat} {k : Nat} {S : zSt} (hn : 220 ≤ n) (hF : zFine S) (hS : zMc σ S) (hk : 0 ≤ σ 189 1 ∧ σ 189 1 ≤ 8) (hv : zVal S d r) (kN : k < zN S) (a0 : zAF σ τ) (s0 : τ 189 2 = 0) (c0 : τ 190 = σ 190) (k0 : τ 189 1 = σ 189 1) (ck5 : zHid (¬ ((k : Int) = 0 ∧ 1 < S 0 0))) (hno : ∀ i, i < zN S → zby (S 4 i) = true → S 5 i ≠ (k : Int)) (hφ : (∀ a, a ≠ 189 → a ≠ 190 → φ a = τ a) ∧ (∀ j, j ≠ 1 → φ 189 j = τ 189 j) ∧ (∀ j, (j < 194 ∨ 1746 ≤ j) → φ 190 j = τ 190 j) ∧ zPsh τ φ 0) (hω : (∀ a, a ≠ 190 → a ≠ 201 → ω a = φ a) ∧ ∀ j, j < zN S → ω 201 j = (if zKe S k j = true then (zcnt (zKe S k) j : Int) else -1))  : ∀ (m : Nat) (i : Nat) (x3 x4 : Int) (χ : zSt), x4 = (i : Int) → x3 = (zcnt (zKe S k) i : Int) → (∀ a, a ≠ 190 → χ a = ω a) → zLi2 (φ 190) (χ 190) S k i → i ≤ zN S → zN S < i + m → Go G X m_Md_lose (4, 0, 0, 0, 0) n SH χ 228 [(0, vr G 189), (1, vi (k : Int)), (2, vi (S 0 0)), (3, vi x3), (4, vi x4)] [] (zI n SH (fun a σ' => ∀ S' : zSt, (((if ¬ (0 ≤ (k : Int) ∧ (k : Int) < S 0 0) then 2 else if (k : Int) = 0 ∧ 1 < S 0 0 then 5 else if zany (fun j => zby (S 4 j) && decide (S 5 j = (k : Int))) (zN S) = true then 6 else 0) : Int) = 0 → zLos S S' k ∧ zFine S') → zAcM σ σ' a (if ¬ (0 ≤ (k : Int) ∧ (k : Int) < S 0 0) then 2 else if (k : Int) = 0 ∧ 1 < S 0 0 then 5 else if zany (fun j => zby (S 4 j) && decide (S 5 j = (k : Int))) (zN S) = true then 6 else 0) (S' 0 0) S S')) := by
  intro m
  induction m with
  | zero => intro i x3 x4 χ e4 e3 hχ hL hi hm; exact absurd hm (by omega)
  | succ m ih =>
    intro i x3 x4 χ e4 e3 hχ hL hi hm
    have hN := hS.N
    have hz : zN S = (S 0 0).toNat := rfl
    have cl := zcnt_le (zKe S k) (zN S)
    obtain ⟨n', en⟩ : ∃ n', n' = zcnt (zKe S k) i := ⟨_, rfl⟩
    have ci := zcnt_le (zKe S k) i
    rw [← en] at e3 ci
    subst e3 e4
    have r201 : ∀ j, j < zN S → χ 201 j = (if zKe S k j = true then (zcnt (zKe S k) j : Int) else -1) := fun j hj => by rw [hχ 201 (by decide)]; exact hω.2 j hj
    refine g_iload (i := 4) (by decide +kernel) rfl ?_
    refine g_iload_n (i := 2) (by decide +kernel) rfl ?_
    refine g_icmp_ge (off := 114) (tgt := 345) (by decide +kernel) (by decide) ⟨by omega, by omega⟩ ⟨by omega, by omega⟩ (fun h231 => ?_) (fun h231 => ?_)
    · refine g_aload_n (i := 0) (by decide +kernel) rfl ?_
      refine g_getr f_Md_7 (by decide +kernel) (by omega) rfl rfl ?_
      refine g_iconst (a := 0) (by decide +kernel) ?_
      refine g_iload_n (i := 3) (by decide +kernel) rfl ?_
      refine g_iast (j := 0) (by decide +kernel) (by omega) rfl (by omega) (by omega) (by decide) ?_
      refine g_iload_n (i := 3) (by decide +kernel) rfl ?_
      refine g_retI (by decide +kernel) rfl (Or.inl rfl) ⟨by decide, by decide⟩ ?_
      intro S' hS'
      obtain rfl : i = zN S := by omega
      have w0 : (if ¬ (0 ≤ (k : Int) ∧ (k : Int) < S 0 0) then 2 else if (k : Int) = 0 ∧ 1 < S 0 0 then 5 else if zany (fun j => zby (S 4 j) && decide (S 5 j = (k : Int))) (zN S) = true then 6 else 0) = (0 : Int) := by
        rw [if_neg (fun y => y ⟨by omega, by omega⟩), if_neg ck5, if_neg]
        intro y
        obtain ⟨j, j1, j2⟩ := zany_iff.mp y
        rw [Bool.and_eq_true] at j2
        exact hno j j1 j2.1 (of_decide_eq_true j2.2)
      obtain ⟨l1, l2⟩ := hS' w0
      have los := zLi2_los (zMw_blk hS.b (c := σ 190) (o := 0) (c' := φ 190) (o' := 0) (fun j hj => by rw [hφ.2.2.1 _ (by omega), c0]) hS.1) hL
      refine zAcM.st2 (ρ := τ) (τ := φ) (src := 0) a0 s0 k0 hk hS.b (by rw [c0]; exact hS.1) (fun j _ _ => by rw [c0]) hφ ⟨⟨fun a ha => ?_, fun j _ => ?_⟩, fun j _ => ?_, fun j q1 q2 => ?_⟩ ?_ w0 ?_
      · rw [zs_other (by omega), hχ a (by omega), hω.1 a (by omega) (by omega)]
      · rw [zs_other (by decide), hχ 189 (by decide), hω.1 189 (by decide) (by decide)]
      · rw [zs_other (by decide), hχ 189 (by decide), hω.1 189 (by decide) (by decide)]
      · rw [zs_row, zu_ne (by omega), hL.1 j (by omega)]
      · rw [zs_row, en]; exact l1.eqv los
      · rw [l1.1.1, en]
    · have iN : i < zN S := by omega
      have ri := r201 i iN
      have ri2 : -1 ≤ χ 201 i ∧ χ 201 i ≤ 12 := by rw [ri]; split <;> omega
      refine g_aload_n (i := 0) (by decide +kernel) rfl ?_
      refine g_getr f_Md_85 (by decide +kernel) (by omega) rfl rfl ?_
      refine g_iload (i := 4) (by decide +kernel) rfl ?_
      refine g_iald (j := i) (by decide +kernel) (by omega) rfl (by omega) (by omega) (by decide) ?_
      refine g_if_ge (off := 6) (tgt := 247) (by decide +kernel) (by decide) ⟨by omega, by omega⟩ (fun h241 => ?_) (fun h241 => ?_)
      · have Ki : zKe S k i = true := by
          cases e : zKe S k i with
          | true => rfl
          | false => rw [e, if_neg (by decide)] at ri; omega
        have ti := hv.2.1 i iN
        have up := zKe_up hv iN Ki
        have b := hL.2.2 i (by rw [← en]; omega) iN
        obtain ⟨b1, b2, b3, b4, b5, b6, b7⟩ := b
        have r5 := (hS.rg (show i < 12 by omega)).2.2.2.2.1
        have ot : S 5 i = -1 ∨ (0 ≤ S 5 i ∧ (S 5 i).toNat < zN S ∧ zKe S k (S 5 i).toNat = true) := by
          by_cases z : zby (S 4 i) = true
          · have o := hv.oth iN z
            exact Or.inr ⟨o.1, o.2.1, zKe_sib hv iN o.2.1 Ki o.2.2.1 (by have := hno i iN z; omega)⟩
          · exact Or.inl ((hF.1.2.2 i iN).2 (Bool.eq_false_iff.mpr z))
        refine g_aload_n (i := 0) (by decide +kernel) rfl ?_
        refine g_iconst (a := 0) (by decide +kernel) ?_
        refine g_iload (i := 4) (by decide +kernel) rfl ?_
        refine g_iload_n (i := 3) (by decide +kernel) rfl ?_
        refine g_cVV (st := _) (c_Md_copyClip (b := 0) (f := i) (t := n') hn (Or.inl rfl) (by omega) (by omega)) k_Md_copyClip l_Md_319 (by decide +kernel) (by omega) rfl rfl rfl rfl (Nat.le_of_ble_eq_true rfl) (by decide) ⟨by decide, by decide⟩ ?_
        rintro ψ hψ
        have y0 : ∀ a, a ≠ 190 → ψ a = χ a := fun a ha => by rw [hψ, zrow_ne ha]
        have y1 : ψ 190 = zwc (χ 190) 0 n' (χ 190 (0 + 2 + i)) (χ 190 (0 + 14 + i)) (χ 190 (0 + 26 + i)) (χ 190 (0 + 146 + i)) (χ 190 (0 + 158 + i)) (χ 190 (0 + 170 + i)) (fun u => χ 190 (0 + 38 + 9 * i + u)) := by rw [hψ, zrow_eq]
        have z2 : ψ 190 (14 + n') = S 2 i := by rw [y1, show 14 + n' = 0 + 14 + n' by omega, zwc_2 (by omega), show 0 + 14 + i = 14 + i by omega]; exact b2
        have z5 : ∀ v, zu (ψ 190) (14 + n') v (158 + n') = S 5 i := fun v => by rw [zu_ne (by omega), y1, show 158 + n' = 0 + 158 + n' by omega, zwc_5 (by omega), show 0 + 158 + i = 158 + i by omega]; exact b5
        have p201 : ∀ j, j < zN S → zKe S k j = true → ψ 201 j = (zcnt (zKe S k) j : Int) := fun j hj hK => by rw [y0 201 (by decide), r201 j hj, if_pos hK]
        refine g_aload_n (i := 0) (by decide +kernel) rfl ?_
        refine g_getr f_Md_7 (by decide +kernel) (by omega) rfl rfl ?_
        refine g_bipush (a := 14) (by decide +kernel) (by decide) ?_
        refine g_iload_n (i := 3) (by decide +kernel) rfl ?_
        refine g_iadd (by decide +kernel) ?_
        refine g_aload_n (i := 0) (by decide +kernel) rfl ?_
        refine g_getr f_Md_7 (by decide +kernel) (by omega) rfl rfl ?_
        refine g_bipush (a := 14) (by decide +kernel) (by decide) ?_
        refine g_iload_n (i := 3) (by decide +kernel) rfl ?_
        refine g_iadd (by decide +kernel) ?_
        refine g_iald (j := (14 + n')) (by decide +kernel) (by omega) rfl (by omega) (by omega) (by decide) ?_
        refine g_if_ge (off := 7) (tgt := 279) (by decide +kernel) (by decide) ⟨by rw [z2]; omega, by rw [z2]; omega⟩ (fun h272 => ?_) (fun h272 => ?_)
        · refine g_aload_n (i := 0) (by decide +kernel) rfl ?_
          refine g_getr f_Md_85 (by decide +kernel) (by omega) rfl rfl ?_
          refine g_aload_n (i := 0) (by decide +kernel) rfl ?_
          refine g_getr f_Md_7 (by decide +kernel) (by omega) rfl rfl ?_
          refine g_bipush (a := 14) (by decide +kernel) (by decide) ?_
          refine g_iload_n (i := 3) (by decide +kernel) rfl ?_
          refine g_iadd (by decide +kernel) ?_
          refine g_iald (j := (14 + n')) (by decide +kernel) (by omega) rfl (by omega) (by omega) (by decide) ?_
          refine g_iald (j := (S 2 i).toNat) (by decide +kernel) (by omega) rfl (by rw [z2]; omega) (by omega) (by decide) ?_
          refine g_iast (j := (14 + n')) (by decide +kernel) (by omega) rfl (by omega) (by omega) (by decide) ?_
          have e158 : ∀ v, zs ψ 190 (14 + n') v 190 (158 + n') = S 5 i := fun v => by rw [zs_row]; exact z5 v
          refine g_aload_n (i := 0) (by decide +kernel) rfl ?_
          refine g_getr f_Md_7 (by decide +kernel) (by omega) rfl rfl ?_
          refine g_sipush (a := 158) (by decide +kernel) (by decide) ?_
          refine g_iload_n (i := 3) (by decide +kernel) rfl ?_
          refine g_iadd (by decide +kernel) ?_
          refine g_aload_n (i := 0) (by decide +kernel) rfl ?_
          refine g_getr f_Md_7 (by decide +kernel) (by omega) rfl rfl ?_
          refine g_sipush (a := 158) (by decide +kernel) (by decide) ?_
          refine g_iload_n (i := 3) (by decide +kernel) rfl ?_
          refine g_iadd (by decide +kernel) ?_
          refine g_iald (j := (158 + n')) (by decide +kernel) (by omega) rfl (by omega) (by omega) (by decide) ?_
          refine g_if_ge (off := 7) (tgt := 320) (by decide +kernel) (by decide) ⟨by rw [e158]; omega, by rw [e158]; omega⟩ (fun h313 => ?_) (fun h313 => ?_)
          · refine g_aload_n (i := 0) (by decide +kernel) rfl ?_
            refine g_getr f_Md_85 (by decide +kernel) (by omega) rfl rfl ?_
            refine g_aload_n (i := 0) (by decide +kernel) rfl ?_
            refine g_getr f_Md_7 (by decide +kernel) (by omega) rfl rfl ?_
            refine g_sipush (a := 158) (by decide +kernel) (by decide) ?_
            refine g_iload_n (i := 3) (by decide +kernel) rfl ?_
            refine g_iadd (by decide +kernel) ?_
            refine g_iald (j := (158 + n')) (by decide +kernel) (by omega) rfl (by omega) (by omega) (by decide) ?_
            refine g_iald (j := (S 5 i).toNat) (by decide +kernel) (by omega) rfl (by have q := h313; rw [e158] at q ⊢; omega) (by omega) (by decide) ?_
            refine g_iast (j := (158 + n')) (by decide +kernel) (by omega) rfl (by omega) (by omega) (by decide) ?_
            refine g_iinc (i := 3) (b := 1) (L' := [(0, _), (1, _), (2, _), (3, _), (4, _)]) (by decide +kernel) rfl rfl rfl ?_
            refine g_iinc (i := 4) (b := 1) (L' := [(0, _), (1, _), (2, _), (3, _), (4, _)]) (by decide +kernel) rfl rfl rfl ?_
            refine g_goto (off := -114) (tgt := 228) (by decide +kernel) (by decide) ?_
            first
              | (have hz : χ 201 i < 0 := h241
                 have Kn : zKe S k i = false := by
                   cases e : zKe S k i with
                   | false => rfl
                   | true => rw [e, if_pos rfl] at ri; omega
                 exact ih (i + 1) _ _ χ (by push_cast; rfl) (by rw [zcnt_f Kn, en]) hχ (zLi2_no hL Kn) (by omega) (by omega))
              | (have A : ∀ a b : Int, a = (if S 2 i = -1 then -1 else (zcnt (zKe S k) (S 2 i).toNat : Int)) → b = (if S 5 i = -1 then -1 else (zcnt (zKe S k) (S 5 i).toNat : Int)) → Go G X m_Md_lose (4, 0, 0, 0, 0) n SH (zs (zs ψ 190 (14 + n') a) 190 (158 + n') b) 228 [(0, vr G 189), (1, vi (k : Int)), (2, vi (S 0 0)), (3, vi ((n' : Int) + 1)), (4, vi ((i : Int) + 1))] [] (zI n SH (fun a σ' => ∀ S' : zSt, (((if ¬ (0 ≤ (k : Int) ∧ (k : Int) < S 0 0) then 2 else if (k : Int) = 0 ∧ 1 < S 0 0 then 5 else if zany (fun j => zby (S 4 j) && decide (S 5 j = (k : Int))) (zN S) = true then 6 else 0) : Int) = 0 → zLos S S' k ∧ zFine S') → zAcM σ σ' a (if ¬ (0 ≤ (k : Int) ∧ (k : Int) < S 0 0) then 2 else if (k : Int) = 0 ∧ 1 < S 0 0 then 5 else if zany (fun j => zby (S 4 j) && decide (S 5 j = (k : Int))) (zN S) = true then 6 else 0) (S' 0 0) S S')) := by
                   intro a b ea eb
                   refine ih (i + 1) _ _ _ (by push_cast; rfl) (by rw [zcnt_t Ki, en]; push_cast; rfl) (fun q hq => by rw [zs_other hq, zs_other hq, y0 q hq]; exact hχ q hq) (zLi2_yes hL (by omega) iN Ki ea eb ?_) (by omega) (by omega)
                   rw [zs_row, zs_row, y1, ← en]
                 refine A _ _ ?_ ?_
                 · first
                     | (have hz : ψ 190 (14 + n') < 0 := h272
                        rw [if_pos (by omega)])
                     | (have hz : 0 ≤ ψ 190 (14 + n') := h272
                        rw [if_neg (by omega)]
                        exact p201 _ (by omega) (up.2 (by omega)))
                 · first
                     | (have hz := h313
                        rw [e158] at hz
                        rw [if_pos (by omega)])
                     | (have hz := h313
                        rw [e158] at hz
                        rw [if_neg (by omega), zs_other (by decide)]
                        exact p201 _ (by omega) (by
                          rcases ot with y | y
                          · omega
                          · exact y.2.2)))
          · refine g_iconst (a := -1) (by decide +kernel) ?_
            refine g_goto (off := 18) (tgt := 335) (by decide +kernel) (by decide) ?_
            refine g_iast (j := (158 + n')) (by decide +kernel) (by omega) rfl (by omega) (by omega) (by decide) ?_
            refine g_iinc (i := 3) (b := 1) (L' := [(0, _), (1, _), (2, _), (3, _), (4, _)]) (by decide +kernel) rfl rfl rfl ?_
            refine g_iinc (i := 4) (b := 1) (L' := [(0, _), (1, _), (2, _), (3, _), (4, _)]) (by decide +kernel) rfl rfl rfl ?_
            refine g_goto (off := -114) (tgt := 228) (by decide +kernel) (by decide) ?_
            first
              | (have hz : χ 201 i < 0 := h241
                 have Kn : zKe S k i = false := by
                   cases e : zKe S k i with
                   | false => rfl
                   | true => rw [e, if_pos rfl] at ri; omega
                 exact ih (i + 1) _ _ χ (by push_cast; rfl) (by rw [zcnt_f Kn, en]) hχ (zLi2_no hL Kn) (by omega) (by omega))
              | (have A : ∀ a b : Int, a = (if S 2 i = -1 then -1 else (zcnt (zKe S k) (S 2 i).toNat : Int)) → b = (if S 5 i = -1 then -1 else (zcnt (zKe S k) (S 5 i).toNat : Int)) → Go G X m_Md_lose (4, 0, 0, 0, 0) n SH (zs (zs ψ 190 (14 + n') a) 190 (158 + n') b) 228 [(0, vr G 189), (1, vi (k : Int)), (2, vi (S 0 0)), (3, vi ((n' : Int) + 1)), (4, vi ((i : Int) + 1))] [] (zI n SH (fun a σ' => ∀ S' : zSt, (((if ¬ (0 ≤ (k : Int) ∧ (k : Int) < S 0 0) then 2 else if (k : Int) = 0 ∧ 1 < S 0 0 then 5 else if zany (fun j => zby (S 4 j) && decide (S 5 j = (k : Int))) (zN S) = true then 6 else 0) : Int) = 0 → zLos S S' k ∧ zFine S') → zAcM σ σ' a (if ¬ (0 ≤ (k : Int) ∧ (k : Int) < S 0 0) then 2 else if (k : Int) = 0 ∧ 1 < S 0 0 then 5 else if zany (fun j => zby (S 4 j) && decide (S 5 j = (k : Int))) (zN S) = true then 6 else 0) (S' 0 0) S S')) := by
                   intro a b ea eb
                   refine ih (i + 1) _ _ _ (by push_cast; rfl) (by rw [zcnt_t Ki, en]; push_cast; rfl) (fun q hq => by rw [zs_other hq, zs_other hq, y0 q hq]; exact hχ q hq) (zLi2_yes hL (by omega) iN Ki ea eb ?_) (by omega) (by omega)
                   rw [zs_row, zs_row, y1, ← en]
                 refine A _ _ ?_ ?_
                 · first
                     | (have hz : ψ 190 (14 + n') < 0 := h272
                        rw [if_pos (by omega)])
                     | (have hz : 0 ≤ ψ 190 (14 + n') := h272
                        rw [if_neg (by omega)]
                        exact p201 _ (by omega) (up.2 (by omega)))
                 · first
                     | (have hz := h313
                        rw [e158] at hz
                        rw [if_pos (by omega)])
                     | (have hz := h313
                        rw [e158] at hz
                        rw [if_neg (by omega), zs_other (by decide)]
                        exact p201 _ (by omega) (by
                          rcases ot with y | y
                          · omega
                          · exact y.2.2)))
        · refine g_iconst (a := -1) (by decide +kernel) ?_
          refine g_goto (off := 17) (tgt := 293) (by decide +kernel) (by decide) ?_
          refine g_iast (j := (14 + n')) (by decide +kernel) (by omega) rfl (by omega) (by omega) (by decide) ?_
          have e158 : ∀ v, zs ψ 190 (14 + n') v 190 (158 + n') = S 5 i := fun v => by rw [zs_row]; exact z5 v
          refine g_aload_n (i := 0) (by decide +kernel) rfl ?_
          refine g_getr f_Md_7 (by decide +kernel) (by omega) rfl rfl ?_
          refine g_sipush (a := 158) (by decide +kernel) (by decide) ?_
          refine g_iload_n (i := 3) (by decide +kernel) rfl ?_
          refine g_iadd (by decide +kernel) ?_
          refine g_aload_n (i := 0) (by decide +kernel) rfl ?_
          refine g_getr f_Md_7 (by decide +kernel) (by omega) rfl rfl ?_
          refine g_sipush (a := 158) (by decide +kernel) (by decide) ?_
          refine g_iload_n (i := 3) (by decide +kernel) rfl ?_
          refine g_iadd (by decide +kernel) ?_
          refine g_iald (j := (158 + n')) (by decide +kernel) (by omega) rfl (by omega) (by omega) (by decide) ?_
          refine g_if_ge (off := 7) (tgt := 320) (by decide +kernel) (by decide) ⟨by rw [e158]; omega, by rw [e158]; omega⟩ (fun h313 => ?_) (fun h313 => ?_)
          · refine g_aload_n (i := 0) (by decide +kernel) rfl ?_
            refine g_getr f_Md_85 (by decide +kernel) (by omega) rfl rfl ?_
            refine g_aload_n (i := 0) (by decide +kernel) rfl ?_
            refine g_getr f_Md_7 (by decide +kernel) (by omega) rfl rfl ?_
            refine g_sipush (a := 158) (by decide +kernel) (by decide) ?_
            refine g_iload_n (i := 3) (by decide +kernel) rfl ?_
            refine g_iadd (by decide +kernel) ?_
            refine g_iald (j := (158 + n')) (by decide +kernel) (by omega) rfl (by omega) (by omega) (by decide) ?_
            refine g_iald (j := (S 5 i).toNat) (by decide +kernel) (by omega) rfl (by have q := h313; rw [e158] at q ⊢; omega) (by omega) (by decide) ?_
            refine g_iast (j := (158 + n')) (by decide +kernel) (by omega) rfl (by omega) (by omega) (by decide) ?_
            refine g_iinc (i := 3) (b := 1) (L' := [(0, _), (1, _), (2, _), (3, _), (4, _)]) (by decide +kernel) rfl rfl rfl ?_
            refine g_iinc (i := 4) (b := 1) (L' := [(0, _), (1, _), (2, _), (3, _), (4, _)]) (by decide +kernel) rfl rfl rfl ?_
            refine g_goto (off := -114) (tgt := 228) (by decide +kernel) (by decide) ?_
            first
              | (have hz : χ 201 i < 0 := h241
                 have Kn : zKe S k i = false := by
                   cases e : zKe S k i with
                   | false => rfl
                   | true => rw [e, if_pos rfl] at ri; omega
                 exact ih (i + 1) _ _ χ (by push_cast; rfl) (by rw [zcnt_f Kn, en]) hχ (zLi2_no hL Kn) (by omega) (by omega))
              | (have A : ∀ a b : Int, a = (if S 2 i = -1 then -1 else (zcnt (zKe S k) (S 2 i).toNat : Int)) → b = (if S 5 i = -1 then -1 else (zcnt (zKe S k) (S 5 i).toNat : Int)) → Go G X m_Md_lose (4, 0, 0, 0, 0) n SH (zs (zs ψ 190 (14 + n') a) 190 (158 + n') b) 228 [(0, vr G 189), (1, vi (k : Int)), (2, vi (S 0 0)), (3, vi ((n' : Int) + 1)), (4, vi ((i : Int) + 1))] [] (zI n SH (fun a σ' => ∀ S' : zSt, (((if ¬ (0 ≤ (k : Int) ∧ (k : Int) < S 0 0) then 2 else if (k : Int) = 0 ∧ 1 < S 0 0 then 5 else if zany (fun j => zby (S 4 j) && decide (S 5 j = (k : Int))) (zN S) = true then 6 else 0) : Int) = 0 → zLos S S' k ∧ zFine S') → zAcM σ σ' a (if ¬ (0 ≤ (k : Int) ∧ (k : Int) < S 0 0) then 2 else if (k : Int) = 0 ∧ 1 < S 0 0 then 5 else if zany (fun j => zby (S 4 j) && decide (S 5 j = (k : Int))) (zN S) = true then 6 else 0) (S' 0 0) S S')) := by
                   intro a b ea eb
                   refine ih (i + 1) _ _ _ (by push_cast; rfl) (by rw [zcnt_t Ki, en]; push_cast; rfl) (fun q hq => by rw [zs_other hq, zs_other hq, y0 q hq]; exact hχ q hq) (zLi2_yes hL (by omega) iN Ki ea eb ?_) (by omega) (by omega)
                   rw [zs_row, zs_row, y1, ← en]
                 refine A _ _ ?_ ?_
                 · first
                     | (have hz : ψ 190 (14 + n') < 0 := h272
                        rw [if_pos (by omega)])
                     | (have hz : 0 ≤ ψ 190 (14 + n') := h272
                        rw [if_neg (by omega)]
                        exact p201 _ (by omega) (up.2 (by omega)))
                 · first
                     | (have hz := h313
                        rw [e158] at hz
                        rw [if_pos (by omega)])
                     | (have hz := h313
                        rw [e158] at hz
                        rw [if_neg (by omega), zs_other (by decide)]
                        exact p201 _ (by omega) (by
                          rcases ot with y | y
                          · omega
                          · exact y.2.2)))
          · refine g_iconst (a := -1) (by decide +kernel) ?_
            refine g_goto (off := 18) (tgt := 335) (by decide +kernel) (by decide) ?_
            refine g_iast (j := (158 + n')) (by decide +kernel) (by omega) rfl (by omega) (by omega) (by decide) ?_
            refine g_iinc (i := 3) (b := 1) (L' := [(0, _), (1, _), (2, _), (3, _), (4, _)]) (by decide +kernel) rfl rfl rfl ?_
            refine g_iinc (i := 4) (b := 1) (L' := [(0, _), (1, _), (2, _), (3, _), (4, _)]) (by decide +kernel) rfl rfl rfl ?_
            refine g_goto (off := -114) (tgt := 228) (by decide +kernel) (by decide) ?_
            first
              | (have hz : χ 201 i < 0 := h241
                 have Kn : zKe S k i = false := by
                   cases e : zKe S k i with
                   | false => rfl
                   | true => rw [e, if_pos rfl] at ri; omega
                 exact ih (i + 1) _ _ χ (by push_cast; rfl) (by rw [zcnt_f Kn, en]) hχ (zLi2_no hL Kn) (by omega) (by omega))
              | (have A : ∀ a b : Int, a = (if S 2 i = -1 then -1 else (zcnt (zKe S k) (S 2 i).toNat : Int)) → b = (if S 5 i = -1 then -1 else (zcnt (zKe S k) (S 5 i).toNat : Int)) → Go G X m_Md_lose (4, 0, 0, 0, 0) n SH (zs (zs ψ 190 (14 + n') a) 190 (158 + n') b) 228 [(0, vr G 189), (1, vi (k : Int)), (2, vi (S 0 0)), (3, vi ((n' : Int) + 1)), (4, vi ((i : Int) + 1))] [] (zI n SH (fun a σ' => ∀ S' : zSt, (((if ¬ (0 ≤ (k : Int) ∧ (k : Int) < S 0 0) then 2 else if (k : Int) = 0 ∧ 1 < S 0 0 then 5 else if zany (fun j => zby (S 4 j) && decide (S 5 j = (k : Int))) (zN S) = true then 6 else 0) : Int) = 0 → zLos S S' k ∧ zFine S') → zAcM σ σ' a (if ¬ (0 ≤ (k : Int) ∧ (k : Int) < S 0 0) then 2 else if (k : Int) = 0 ∧ 1 < S 0 0 then 5 else if zany (fun j => zby (S 4 j) && decide (S 5 j = (k : Int))) (zN S) = true then 6 else 0) (S' 0 0) S S')) := by
                   intro a b ea eb
                   refine ih (i + 1) _ _ _ (by push_cast; rfl) (by rw [zcnt_t Ki, en]; push_cast; rfl) (fun q hq => by rw [zs_other hq, zs_other hq, y0 q hq]; exact hχ q hq) (zLi2_yes hL (by omega) iN Ki ea eb ?_) (by omega) (by omega)
                   rw [zs_row, zs_row, y1, ← en]
                 refine A _ _ ?_ ?_
                 · first
                     | (have hz : ψ 190 (14 + n') < 0 := h272
                        rw [if_pos (by omega)])
                     | (have hz : 0 ≤ ψ 190 (14 + n') := h272
                        rw [if_neg (by omega)]
                        exact p201 _ (by omega) (up.2 (by omega)))
                 · first
                     | (have hz := h313
                        rw [e158] at hz
                        rw [if_pos (by omega)])
                     | (have hz := h313
                        rw [e158] at hz
                        rw [if_neg (by omega), zs_other (by decide)]
                        exact p201 _ (by omega) (by
                          rcases ot with y | y
                          · omega
                          · exact y.2.2)))
      · refine g_goto (off := 95) (tgt := 339) (by decide +kernel) (by decide) ?_
        refine g_iinc (i := 4) (b := 1) (L' := [(0, _), (1, _), (2, _), (3, _), (4, _)]) (by decide +kernel) rfl rfl rfl ?_
        refine g_goto (off := -114) (tgt := 228) (by decide +kernel) (by decide) ?_
        first
          | (have hz : χ 201 i < 0 := h241
             have Kn : zKe S k i = false := by
               cases e : zKe S k i with
               | false => rfl
               | true => rw [e, if_pos rfl] at ri; omega
             exact ih (i + 1) _ _ χ (by push_cast; rfl) (by rw [zcnt_f Kn, en]) hχ (zLi2_no hL Kn) (by omega) (by omega))
          | (have A : ∀ a b : Int, a = (if S 2 i = -1 then -1 else (zcnt (zKe S k) (S 2 i).toNat : Int)) → b = (if S 5 i = -1 then -1 else (zcnt (zKe S k) (S 5 i).toNat : Int)) → Go G X m_Md_lose (4, 0, 0, 0, 0) n SH (zs (zs ψ 190 (14 + n') a) 190 (158 + n') b) 228 [(0, vr G 189), (1, vi (k : Int)), (2, vi (S 0 0)), (3, vi ((n' : Int) + 1)), (4, vi ((i : Int) + 1))] [] (zI n SH (fun a σ' => ∀ S' : zSt, (((if ¬ (0 ≤ (k : Int) ∧ (k : Int) < S 0 0) then 2 else if (k : Int) = 0 ∧ 1 < S 0 0 then 5 else if zany (fun j => zby (S 4 j) && decide (S 5 j = (k : Int))) (zN S) = true then 6 else 0) : Int) = 0 → zLos S S' k ∧ zFine S') → zAcM σ σ' a (if ¬ (0 ≤ (k : Int) ∧ (k : Int) < S 0 0) then 2 else if (k : Int) = 0 ∧ 1 < S 0 0 then 5 else if zany (fun j => zby (S 4 j) && decide (S 5 j = (k : Int))) (zN S) = true then 6 else 0) (S' 0 0) S S')) := by
               intro a b ea eb
               refine ih (i + 1) _ _ _ (by push_cast; rfl) (by rw [zcnt_t Ki, en]; push_cast; rfl) (fun q hq => by rw [zs_other hq, zs_other hq, y0 q hq]; exact hχ q hq) (zLi2_yes hL (by omega) iN Ki ea eb ?_) (by omega) (by omega)
               rw [zs_row, zs_row, y1, ← en]
             refine A _ _ ?_ ?_
             · first
                 | (have hz : ψ 190 (14 + n') < 0 := h272
                    rw [if_pos (by omega)])
                 | (have hz : 0 ≤ ψ 190 (14 + n') := h272
                    rw [if_neg (by omega)]
                    exact p201 _ (by omega) (up.2 (by omega)))
             · first
                 | (have hz := h313
                    rw [e158] at hz
                    rw [if_pos (by omega)])
                 | (have hz := h313
                    rw [e158] at hz
                    rw [if_neg (by omega), zs_other (by decide)]
                    exact p201 _ (by omega) (by
                      rcases ot with y | y
                      · omega
                      · exact y.2.2)))
