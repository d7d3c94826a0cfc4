section OPS2
variable {S T : zSt} {d r : Nat → Nat} {k : Nat}
/-! a start -/
theorem zlead_more (hv : zVal S d r) {q : Int} : ∀ f g (x : Nat), x < zN S → zrk S r x < f → zlead (S 4) (S 5) q g (x : Int) = true → zlead (S 4) (S 5) q f (x : Int) = true
  | 0, _, _, _, h, _ => absurd h (Nat.not_lt_zero _)
  | f + 1, 0, x, _, _, h => by cases h
  | f + 1, g + 1, x, hx, hf, h => by
    rw [zlead_s] at h ⊢
    by_cases e : (x : Int) = q
    · rw [if_pos e]
    · rw [if_neg e] at h ⊢
      rw [Int.toNat_natCast] at h ⊢
      by_cases b : zby (S 4 x) = true
      · rw [if_pos b] at h ⊢
        have o := hv.oth hx b
        have l := zrk_lt hv hx b
        have e5 : S 5 x = (((S 5 x).toNat : Nat) : Int) := by omega
        rw [e5] at h ⊢
        exact zlead_more hv f g (S 5 x).toNat o.2.1 (by omega) h
      · rw [if_neg b] at h; exact absurd h (by decide)
def zOpS (S : zSt) (c : Nat) (h o m : Int) : zSt := zs (zs (zs S 4 c h) 5 c o) 6 c m
theorem zOpS_r (S : zSt) (c : Nat) (h o m : Int) : (∀ r, r ≠ 4 → r ≠ 5 → r ≠ 6 → zOpS S c h o m r = S r) ∧ zOpS S c h o m 4 = zu (S 4) c h ∧ zOpS S c h o m 5 = zu (S 5) c o ∧ zOpS S c h o m 6 = zu (S 6) c m := by
  unfold zOpS
  refine ⟨fun r h1 h2 h3 => by rw [zs_other h3, zs_other h2, zs_other h1], ?_, ?_, ?_⟩
  · rw [zs_other (by decide), zs_other (by decide), zs_row]
  · rw [zs_other (by decide), zs_row, zs_other (by decide)]
  · rw [zs_row, zs_other (by decide), zs_other (by decide)]
theorem zOpS_val (hv : zVal S d r) {c : Nat} {h o m : Int} (hc : c < zN S) (hh : 0 ≤ h ∧ h ≤ 3) (hm : 0 ≤ m ∧ m ≤ 999) (hp : h ≠ 0 → S 2 c ≠ -1 ∧ S 1 (S 2 c).toNat = 1) (hb : zby h = true → 0 ≤ o ∧ o.toNat < zN S ∧ S 2 o.toNat = S 2 c ∧ zlead (S 4) (S 5) (c : Int) 12 o = false) : ∃ r', zVal (zOpS S c h o m) d r' := by
  obtain ⟨q0, q4, q5, q6⟩ := zOpS_r S c h o m
  have n0 : zN (zOpS S c h o m) = zN S := by unfold zN; rw [q0 0 (by decide) (by decide) (by decide)]
  have ec : ∀ q p, zch (zOpS S c h o m) q p = zch S q p := fun q p => by unfold zch; rw [n0, q0 2 (by decide) (by decide) (by decide), q0 3 (by decide) (by decide) (by decide)]
  have main : ∀ r', (∀ q, q < zN S → zPar (zOpS S c h o m) q r') → zVal (zOpS S c h o m) d r' := by
    intro r' hP
    obtain ⟨⟨v1, v2⟩, v3, v4, v5, v6, v7⟩ := hv
    refine ⟨⟨by rw [n0]; exact v1, ?_⟩, ?_, ?_, by rw [n0]; exact hP, ?_, ?_⟩
    · unfold zDp; rw [n0, q0 2 (by decide) (by decide) (by decide)]; exact v2
    · rw [n0, q0 2 (by decide) (by decide) (by decide)]; exact v3
    · rw [n0]
      intro k hk
      have b := v4 k hk
      have t := v3 k hk
      unfold zMk at *
      rw [q0 7 (by decide) (by decide) (by decide), q0 1 (by decide) (by decide) (by decide), q0 2 (by decide) (by decide) (by decide), q4, q6]
      by_cases z : k = c
      · rw [z, zu_eq, zu_eq]
        rw [z] at b t
        refine ⟨⟨b.1.1, b.1.2.1, b.1.2.2.1, b.1.2.2.2.1, hm⟩, b.2.1, hh, b.2.2.2.1, fun y => ?_⟩
        have p := hp y
        exact ⟨by omega, p.2⟩
      · rw [zu_ne z, zu_ne z]; exact b
    · rw [n0]
      intro k hk
      rw [ec, q0 2 (by decide) (by decide) (by decide), q0 3 (by decide) (by decide) (by decide)]; exact v6 k hk
    · intro q p p' hp'
      rw [ec, ec]; exact v7 q p p' hp'
  by_cases hby : zby h = true
  · obtain ⟨o0, oN, o2, ol⟩ := hb hby
    have v1 := hv.1.1
    let L : Nat → Bool := fun j => zlead (S 4) (S 5) (c : Int) 12 (j : Int)
    have rk : ∀ j, j < zN S → zrk S r j < 12 := fun j hj => by have := zrk_le (r := r) hj; omega
    have Lo : L o.toNat = false := by show zlead (S 4) (S 5) (c : Int) 12 ((o.toNat : Nat) : Int) = false; rw [show ((o.toNat : Nat) : Int) = o by omega]; exact ol
    have Lc : L c = true := by show zlead (S 4) (S 5) (c : Int) 12 (c : Int) = true; rw [zlead_s, if_pos rfl]
    have Lj : ∀ j, j < zN S → j ≠ c → zby (S 4 j) = true → L j = L (S 5 j).toNat := fun j hj hjc b => by
      have ot := hv.oth hj b
      have e5 : (((S 5 j).toNat : Nat) : Int) = S 5 j := by omega
      have st : ∀ f, zlead (S 4) (S 5) (c : Int) (f + 1) (j : Int) = zlead (S 4) (S 5) (c : Int) f (((S 5 j).toNat : Nat) : Int) := fun f => by rw [zlead_s, if_neg (by omega), Int.toNat_natCast, if_pos b, e5]
      cases e : L (S 5 j).toNat with
      | true => exact zlead_more hv 12 13 j hj (rk j hj) (by rw [st]; exact e)
      | false =>
        cases e2 : L j with
        | false => rfl
        | true =>
          have t := zlead_more hv 12 11 (S 5 j).toNat ot.2.1 (rk _ ot.2.1) (by rw [← st]; exact e2)
          exact absurd t (by show ¬ L (S 5 j).toNat = true; rw [e]; decide)
    refine ⟨fun j => if L j = true then r j + r o.toNat + 1 else r j, main _ (fun q hq j hj e2 b => ?_)⟩
    rw [n0] at hj ⊢
    rw [q0 2 (by decide) (by decide) (by decide)] at e2 ⊢
    rw [q4] at b
    rw [q5]
    by_cases z : j = c
    · rw [z, zu_eq]
      rw [z] at e2
      refine ⟨o0, oN, by rw [o2]; exact e2, ?_⟩
      show (if L o.toNat = true then r o.toNat + r o.toNat + 1 else r o.toNat) < (if L c = true then r c + r o.toNat + 1 else r c)
      rw [if_neg (by rw [Lo]; decide), if_pos Lc]; omega
    · rw [zu_ne z] at b ⊢
      have ot := hv.oth hj b
      refine ⟨ot.1, ot.2.1, by rw [ot.2.2.1]; exact e2, ?_⟩
      show (if L (S 5 j).toNat = true then r (S 5 j).toNat + r o.toNat + 1 else r (S 5 j).toNat) < (if L j = true then r j + r o.toNat + 1 else r j)
      rw [← Lj j hj z b]
      have l := ot.2.2.2
      split <;> omega
  · refine ⟨r, main r (fun q hq j hj e2 b => ?_)⟩
    rw [n0] at hj ⊢
    rw [q0 2 (by decide) (by decide) (by decide)] at e2 ⊢
    rw [q4] at b
    rw [q5]
    by_cases z : j = c
    · rw [z, zu_eq] at b; exact absurd b hby
    · rw [zu_ne z] at b ⊢
      have ot := hv.oth hj b
      exact ⟨ot.1, ot.2.1, by rw [ot.2.2.1]; exact e2, ot.2.2.2⟩
theorem zOpS_fin (hF : zFin S) {c : Nat} {h o m : Int} (hc : c < zN S) (hh : 0 ≤ h ∧ h ≤ 3) (hm : 0 ≤ m ∧ m ≤ 999) (hp : h ≠ 0 → S 2 c ≠ -1 ∧ S 1 (S 2 c).toNat = 1) (hb : zby h = true → 0 ≤ o ∧ o.toNat < zN S ∧ S 2 o.toNat = S 2 c ∧ zlead (S 4) (S 5) (c : Int) 12 o = false) (hn : zby h = false → o = -1) : zFin (zOpS S c h o m) := by
  obtain ⟨q0, q4, q5, q6⟩ := zOpS_r S c h o m
  have n0 : zN (zOpS S c h o m) = zN S := by unfold zN; rw [q0 0 (by decide) (by decide) (by decide)]
  obtain ⟨⟨g1, g2, g3, g4⟩, ⟨⟨d, r, hv⟩, t⟩, hl⟩ := hF
  have v1 := hv.1.1
  have orr : -1 ≤ o ∧ o ≤ 11 := by
    cases e : zby h with
    | false => have := hn e; omega
    | true => have := hb e; omega
  obtain ⟨r', V⟩ := zOpS_val hv hc hh hm hp hb
  refine ⟨⟨?_, fun k hk => ?_, ?_, ?_⟩, ⟨⟨d, r', V⟩, ?_⟩, fun k hk => ?_⟩
  · rw [q0 0 (by decide) (by decide) (by decide)]; exact g1
  · have b := g2 k hk
    simp only [Nat.zero_add] at b ⊢
    rw [q0 1 (by decide) (by decide) (by decide), q0 2 (by decide) (by decide) (by decide), q0 3 (by decide) (by decide) (by decide), q4, q5, q6]
    by_cases z : k = c
    · rw [z, zu_eq, zu_eq, zu_eq]
      rw [z] at b
      exact ⟨b.1, b.2.1, b.2.2.1, hh, orr, hm⟩
    · rw [zu_ne z, zu_ne z, zu_ne z]; exact b
  · intro k hk
    rw [q0 _ (by decide) (by decide) (by decide)]; exact g3 k hk
  · intro i hi
    rw [q0 _ (by decide) (by decide) (by decide), q0 _ (by decide) (by decide) (by decide)]; exact g4 i hi
  · rw [q0 0 (by decide) (by decide) (by decide), q0 9 (by decide) (by decide) (by decide)]; exact t
  · rw [n0] at hk
    have b := hl k hk
    rw [q0 7 (by decide) (by decide) (by decide), q4, q5]
    by_cases z : k = c
    · rw [z, zu_eq, zu_eq]
      rw [z] at b
      exact ⟨b.1, hn⟩
    · rw [zu_ne z, zu_ne z]; exact b
/-! a move -/
theorem zsp_k {o p x : Int} (h : x ≠ o) : (o < x ∧ x ≤ p ∧ zsp o p x = x - 1) ∨ (p ≤ x ∧ x < o ∧ zsp o p x = x + 1) ∨ (¬ (o < x ∧ x ≤ p) ∧ ¬ (p ≤ x ∧ x < o) ∧ zsp o p x = x) := by
  unfold zsp
  by_cases h1 : o < x
  · rw [if_pos h1]
    by_cases h2 : p ≤ x - 1
    · rw [if_pos h2]; omega
    · rw [if_neg h2]; omega
  · rw [if_neg h1]
    by_cases h2 : p ≤ x
    · rw [if_pos h2]; omega
    · rw [if_neg h2]; omega
def zOpV (S : zSt) (c : Nat) (p : Int) : zSt := zrow S 3 (fun j => if j = c then p else if j < zN S ∧ S 2 j = S 2 c then zsp (S 3 c) p (S 3 j) else S 3 j)
theorem zOpV_fin (hF : zFin S) {c : Nat} {p : Int} (hc : c < zN S) (hp : 0 ≤ p ∧ p < (zcnt (fun j => decide (S 2 j = S 2 c)) (zN S) : Int)) : zFin (zOpV S c p) := by
  have o : ∀ r, r ≠ 3 → zOpV S c p r = S r := fun r hr => zrow_ne hr
  have e3 : zOpV S c p 3 = fun j => if j = c then p else if j < zN S ∧ S 2 j = S 2 c then zsp (S 3 c) p (S 3 j) else S 3 j := zrow_eq _ _ _
  have n0 : zN (zOpV S c p) = zN S := by unfold zN; rw [o 0 (by decide)]
  obtain ⟨⟨g1, g2, g3, g4⟩, ⟨⟨d, r, hv⟩, t⟩, hl⟩ := hF
  have pg := hv.pg
  have v1 := hv.1.1
  have cl := zcnt_le (fun j => decide (S 2 j = S 2 c)) (zN S)
  have pc := pg.1 c hc
  have ne : ∀ j, j < zN S → j ≠ c → S 2 j = S 2 c → S 3 j ≠ S 3 c := fun j hj hjc h2 h3 => hjc (pg.2 j c hj hc h2 h3)
  have rgn : ∀ k, k < zN S → 0 ≤ zOpV S c p 3 k ∧ zOpV S c p 3 k < (zcnt (fun j => decide (S 2 j = S 2 k)) (zN S) : Int) := fun k hk => by
    rw [e3]
    dsimp only
    have b := pg.1 k hk
    by_cases z : k = c
    · rw [if_pos z, z]; exact hp
    · rw [if_neg z]
      by_cases z2 : k < zN S ∧ S 2 k = S 2 c
      · rw [if_pos z2, z2.2]
        rw [z2.2] at b
        have := zsp_k (p := p) (ne k hk z z2.2)
        omega
      · rw [if_neg z2]; exact b
  have PG' : zPg (zOpV S c p) := by
    unfold zPg
    rw [n0, o 2 (by decide)]
    refine ⟨rgn, fun j k hj hk h2 h3 => ?_⟩
    rw [e3] at h3
    dsimp only at h3
    by_cases zj : j = c
    · by_cases zk : k = c
      · rw [zj, zk]
      · exfalso
        rw [if_pos zj, if_neg zk] at h3
        have h2k : S 2 k = S 2 c := by rw [← h2, zj]
        rw [if_pos ⟨hk, h2k⟩] at h3
        have y := ne k hk zk h2k
        have := zsp_k (p := p) y
        omega
    · by_cases zk : k = c
      · exfalso
        rw [if_neg zj, if_pos zk] at h3
        have h2j : S 2 j = S 2 c := by rw [h2, zk]
        rw [if_pos ⟨hj, h2j⟩] at h3
        have y := ne j hj zj h2j
        have := zsp_k (p := p) y
        omega
      · rw [if_neg zj, if_neg zk] at h3
        by_cases zs' : S 2 j = S 2 c
        · have h2k : S 2 k = S 2 c := by rw [← h2]; exact zs'
          rw [if_pos ⟨hj, zs'⟩, if_pos ⟨hk, h2k⟩] at h3
          have y1 := ne j hj zj zs'
          have y2 := ne k hk zk h2k
          have a := zsp_k (p := p) y1
          have b := zsp_k (p := p) y2
          exact pg.2 j k hj hk h2 (by omega)
        · have h2k : ¬ S 2 k = S 2 c := fun y => zs' (by rw [h2]; exact y)
          rw [if_neg (fun y => zs' y.2), if_neg (fun y => h2k y.2)] at h3
          exact pg.2 j k hj hk h2 h3
  have V : zVal (zOpV S c p) d r := by
    obtain ⟨⟨v1, v2⟩, v3, v4, v5, -⟩ := hv
    refine ⟨⟨by rw [n0]; exact v1, ?_⟩, ?_, ?_, ?_, PG'.pl (by rw [n0]; exact v1)⟩
    · unfold zDp; rw [n0, o 2 (by decide)]; exact v2
    · rw [n0, o 2 (by decide)]; exact v3
    · unfold zMk; rw [n0, o 7 (by decide), o 6 (by decide), o 1 (by decide), o 2 (by decide), o 4 (by decide)]; exact v4
    · unfold zPar; rw [n0, o 2 (by decide), o 4 (by decide), o 5 (by decide)]; exact v5
  refine ⟨⟨by rw [o 0 (by decide)]; exact g1, fun k hk => ?_, ?_, ?_⟩, ⟨⟨d, r, V⟩, ?_⟩, ?_⟩
  · have b := g2 k hk
    simp only [Nat.zero_add] at b ⊢
    rw [o 1 (by decide), o 2 (by decide), o 4 (by decide), o 5 (by decide), o 6 (by decide)]
    refine ⟨b.1, b.2.1, ?_, b.2.2.2⟩
    by_cases hkN : k < zN S
    · have a := rgn k hkN
      have l := zcnt_le (fun j => decide (S 2 j = S 2 k)) (zN S)
      omega
    · rw [e3]
      dsimp only
      rw [if_neg (by omega), if_neg (fun y => hkN y.1)]; exact b.2.2.1
  · intro k hk; rw [o _ (by decide)]; exact g3 k hk
  · intro i hi; rw [o _ (by decide), o _ (by decide)]; exact g4 i hi
  · rw [o 0 (by decide), o 9 (by decide)]; exact t
  · rw [n0, o 7 (by decide), o 4 (by decide), o 5 (by decide)]; exact hl
end OPS2
