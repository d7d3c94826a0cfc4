/-! EACH STEP KEEPS WHAT HOLDS; what the machine comes to -/
theorem zTab_02 : ∀ w, w < 9 → zTab 0 w ≤ zTab 2 w ∧ ((w = 4 ∨ w = 5) → zTab 0 w ≤ 1 ∧ 1 ≤ zTab 1 w) := by decide
section INV2
variable {b : Nat → Int} {n0 : Nat} {A C : zAb}
theorem zpS_inv {k : Nat} (hA : zAi n0 A) (hv : zAv A) (hk : A.mk = (k : Int)) (h : zpS b n0 A k = .inr C) : zAi n0 C ∧ zAv C := by
  have hN : zN A.D = (A.D 0 0).toNat := rfl
  unfold zpS at h
  by_cases c : zTt b n0 A.q = 4 ∧ zTs b n0 A.q = (if A.D 1 k = 0 then 59 else 40)
  · rw [if_neg (fun y => y c)] at h
    have e := (Sum.inr.inj h).symm
    rw [e]
    have mk2 := hA.2.2.2.1
    refine ⟨⟨(znx_r hA.1).2, hA.2.1, ?_, ⟨by show (-1 : Int) ≤ -1; decide, by show (-1 : Int) < A.D 0 0; omega⟩, hA.2.2.2.2.1, hA.2.2.2.2.2⟩, hv.sgn hk (by omega)⟩
    have ob := hA.2.2.1
    show -1 ≤ (if A.D 1 k = 0 then A.op else (k : Int)) ∧ (if A.D 1 k = 0 then A.op else (k : Int)) < A.D 0 0
    split <;> omega
  · rw [if_pos c] at h; cases h
theorem zpM_inv {k w : Nat} (hA : zAi n0 A) (hv : zAv A) (hk : A.mk = (k : Int)) (hw : w < 9) (h : zpM b n0 A k w = .inr C) : zAi n0 C ∧ zAv C := by
  have hN : zN A.D = (A.D 0 0).toNat := rfl
  have mk2 := hA.2.2.2.1
  have t2 := zTab_02 w hw
  have t9 := zTab_r9 w hw
  have n1 := znx_r (b := b) hA.1
  have n2 := znx_r (b := b) n1.2
  unfold zpM at h
  by_cases c : w = 4 ∨ w = 5
  · rw [if_pos c] at h
    have e := (Sum.inr.inj h).symm
    rw [e]
    exact ⟨(hA.m7 (by decide)).tok n1.2, hv.m7 (by omega) hw ⟨(t2.2 c).1, (t2.2 c).2⟩⟩
  · rw [if_neg c] at h
    by_cases c2 : zTt b n0 (znx b n0 A.q) = 3 ∧ zTab 2 w ≤ zTs b n0 (znx b n0 A.q) ∧ zTs b n0 (znx b n0 A.q) ≤ zTab 1 w
    · rw [if_neg (fun y => y c2)] at h
      have e := (Sum.inr.inj h).symm
      rw [e]
      exact ⟨(hA.m7 ⟨by omega, by omega⟩).tok n2.2, hv.m7 (by omega) hw ⟨by omega, by omega⟩⟩
    · rw [if_pos c2] at h; cases h
theorem zpT_inv {k : Nat} {g : Int} (hA : zAi n0 A) (hv : zAv A) (hk : A.mk = (k : Int)) (hg : 0 ≤ g ∧ g ≤ 3) (hp : g ≠ 0 → A.D 2 k ≠ -1 ∧ A.D 1 (A.D 2 k).toNat = 1) (h : zpT b n0 A k g = .inr C) : zAi n0 C ∧ zAv C := by
  have hN : zN A.D = (A.D 0 0).toNat := rfl
  have mk2 := hA.2.2.2.1
  unfold zpT at h
  by_cases c : zTt b n0 A.q = 3 ∧ 0 ≤ zTs b n0 A.q ∧ zTs b n0 A.q ≤ (if g = 3 then 3 else 999)
  · rw [if_neg (fun y => y c)] at h
    have e := (Sum.inr.inj h).symm
    rw [e]
    have s : 0 ≤ zTs b n0 A.q ∧ zTs b n0 A.q ≤ 999 := by
      refine ⟨c.2.1, ?_⟩
      have := c.2.2
      revert this
      split <;> omega
    exact ⟨(hA.m456 hg (by decide) s).tok (znx_r hA.1).2, hv.m456 hk (by omega) hg s hp⟩
  · rw [if_pos c] at h; cases h
theorem zpB_inv {k : Nat} {g : Int} (hA : zAi n0 A) (hv : zAv A) (hk : A.mk = (k : Int)) (hg : 0 ≤ g ∧ g ≤ 3) (h : zpB b n0 A k g = .inr C) : zAi n0 C ∧ zAv C := by
  have n1 := znx_r (b := b) hA.1
  have n2 := znx_r (b := b) n1.2
  unfold zpB at h
  by_cases c : g ≠ 0 ∧ ¬ (A.D 2 k ≠ -1 ∧ A.D 1 (A.D 2 k).toNat = 1)
  · rw [if_pos c] at h; cases h
  · rw [if_neg c] at h
    have hp : g ≠ 0 → A.D 2 k ≠ -1 ∧ A.D 1 (A.D 2 k).toNat = 1 := fun y => Classical.byContradiction (fun z => c ⟨y, z⟩)
    by_cases c2 : g = 1 ∨ g = 2
    · rw [if_pos c2] at h
      by_cases c3 : zisn b n0 (znx b n0 A.q)
      · rw [if_neg (fun y => y c3)] at h
        have sw := zTs_wr c3.1 c3.2.1
        refine zpT_inv (A := zAm (znx b n0 (znx b n0 A.q)) A.D A.nm (zu A.sn k (zTs b n0 (znx b n0 A.q))) A.td A.op A.mk) ⟨n2.2, hA.2.1, hA.2.2.1, hA.2.2.2.1, fun j hj => ⟨(hA.2.2.2.2.1 j hj).1, ?_⟩, hA.2.2.2.2.2⟩ hv.tok hk hg hp h
        show 0 ≤ zu A.sn k (zTs b n0 (znx b n0 A.q)) j ∧ zu A.sn k (zTs b n0 (znx b n0 A.q)) j < 1099511627776
        by_cases e : j = k
        · rw [e, zu_eq]; omega
        · rw [zu_ne e]; exact (hA.2.2.2.2.1 j hj).2
      · rw [if_pos c3] at h; cases h
    · rw [if_neg c2] at h
      exact zpT_inv (A := zAm (znx b n0 A.q) A.D A.nm A.sn A.td A.op A.mk) (hA.tok n1.2) hv.tok hk hg hp h
theorem zpK_inv {k : Nat} (hA : zAi n0 A) (hv : zAv A) (hk : A.mk = (k : Int)) (h : zpK b n0 A k = .inr C) : zAi n0 C ∧ zAv C := by
  have kr := @zkw_r b n0 A.q
  have I12 : (min (zkw b n0 A.q) 12).toNat ≤ 12 := by omega
  have p2 : (2 : Nat) ^ (min (zkw b n0 A.q) 12).toNat ≤ 2 ^ 12 := Nat.pow_le_pow_right (by decide) I12
  have p3 : (2 : Nat) ^ 12 = 4096 := rfl
  have p4 : (2 : Nat) ^ 13 = 8192 := rfl
  have hAU : zAi n0 (zAm A.q A.D A.nm A.sn (A.td ||| 2 ^ (min (zkw b n0 A.q) 12).toNat) A.op A.mk) := ⟨hA.1, hA.2.1, hA.2.2.1, hA.2.2.2.1, hA.2.2.2.2.1, Nat.or_lt_two_pow (n := 13) hA.2.2.2.2.2 (by omega)⟩
  unfold zpK at h
  by_cases c1 : zkw b n0 A.q < 3
  · rw [if_pos c1] at h; cases h
  · rw [if_neg c1] at h
    by_cases c2 : A.td &&& 2 ^ (min (zkw b n0 A.q) 12).toNat ≠ 0
    · rw [if_pos c2] at h; cases h
    · rw [if_neg c2] at h
      by_cases c3 : zkw b n0 A.q < 12
      · rw [if_pos c3] at h
        exact zpM_inv (A := zAm A.q A.D A.nm A.sn (A.td ||| 2 ^ (min (zkw b n0 A.q) 12).toNat) A.op A.mk) hAU hv.tok hk (by omega) h
      · rw [if_neg c3] at h
        exact zpB_inv (A := zAm A.q A.D A.nm A.sn (A.td ||| 2 ^ (min (zkw b n0 A.q) 12).toNat) A.op A.mk) hAU hv.tok hk ⟨by omega, by omega⟩ h
theorem zstep_inv (hA : zAi n0 A) (hv : zAv A) (hs : ¬ zSt0 A) (h : zstep b n0 A = .inr C) : zAi n0 C ∧ zAv C := by
  unfold zstep at h
  by_cases c : A.mk ≠ -1
  · rw [if_pos c] at h
    have hk : A.mk = ((A.mk.toNat : Nat) : Int) := by have := hA.2.2.2.1.1; omega
    by_cases c2 : zTt b n0 A.q = 2
    · rw [if_pos c2] at h; exact zpK_inv hA hv hk h
    · rw [if_neg c2] at h; exact zpS_inv hA hv hk h
  · rw [if_neg c] at h
    have hm : A.mk = -1 := Classical.byContradiction c
    have hop : A.op ≠ -1 := fun y => hs ⟨hm, y⟩
    by_cases c2 : zTt b n0 A.q = 4 ∧ zTs b n0 A.q = 41
    · rw [if_pos c2] at h; exact zpX_inv hA hv hm hop h
    · rw [if_neg c2] at h; exact zpC_inv hA hv (Or.inr hop) h
end INV2
/-- k steps, none of them from a state where nothing is open -/
def zsteps (b : Nat → Int) (n0 : Nat) : Nat → zAb → zAb → Prop
  | 0, A, B => A = B
  | k + 1, A, B => ¬ zSt0 A ∧ ∃ C, zstep b n0 A = .inr C ∧ zsteps b n0 k C B
/-- from A the machine comes to r: a fault, or a state where nothing is open -/
def zRuns (b : Nat → Int) (n0 : Nat) (A : zAb) (r : (Int × Nat) ⊕ zAb) : Prop := ∃ k B, zsteps b n0 k A B ∧ ((¬ zSt0 B ∧ ∃ f, zstep b n0 B = .inl f ∧ r = .inl f) ∨ (zSt0 B ∧ r = .inr B))
theorem zRuns_one {b : Nat → Int} {n0 : Nat} {A C : zAb} {r : (Int × Nat) ⊕ zAb} (hs : ¬ zSt0 A) (h : zstep b n0 A = .inr C) (g : zRuns b n0 C r) : zRuns b n0 A r := by
  obtain ⟨k, B, e, w⟩ := g
  exact ⟨k + 1, B, ⟨hs, C, h, e⟩, w⟩
theorem zsteps_tr {b : Nat → Int} {n0 : Nat} : ∀ (k l : Nat) (A B C : zAb), zsteps b n0 k A B → zsteps b n0 l B C → zsteps b n0 (k + l) A C := by
  intro k
  induction k with
  | zero => intro l A B C h g; have h : A = B := h; rw [h, Nat.zero_add]; exact g
  | succ k ih =>
    rintro l A B C ⟨h0, D, h1, h2⟩ g
    rw [show k + 1 + l = (k + l) + 1 by omega]
    exact ⟨h0, D, h1, ih l D B C h2 g⟩
theorem zsteps_inv {b : Nat → Int} {n0 : Nat} : ∀ (k : Nat) (A B : zAb), zAi n0 A → zAv A → zsteps b n0 k A B → zAi n0 B ∧ zAv B := by
  intro k
  induction k with
  | zero => intro A B h g e; have e : A = B := e; rw [← e]; exact ⟨h, g⟩
  | succ k ih =>
    rintro A B h g ⟨e1, C, e2, e3⟩
    obtain ⟨i1, i2⟩ := zstep_inv h g e1 e2
    exact ih C B i1 i2 e3
/-- the machine comes to one end -/
theorem zRuns_uniq {b : Nat → Int} {n0 : Nat} {r r' : (Int × Nat) ⊕ zAb} : ∀ (k : Nat) (A B : zAb), zsteps b n0 k A B → ((¬ zSt0 B ∧ ∃ f, zstep b n0 B = .inl f ∧ r = .inl f) ∨ (zSt0 B ∧ r = .inr B)) → zRuns b n0 A r' → r = r' := by
  intro k
  induction k with
  | zero =>
    rintro A B e w ⟨l, B', e', w'⟩
    have e : A = B := e
    subst e
    cases l with
    | zero =>
      have e' : A = B' := e'
      subst e'
      rcases w with ⟨w1, f, w2, w3⟩ | ⟨w1, w2⟩
      · rcases w' with ⟨v1, f', v2, v3⟩ | ⟨v1, v2⟩
        · rw [w2] at v2; cases v2; rw [w3, v3]
        · exact absurd v1 w1
      · rcases w' with ⟨v1, f', v2, v3⟩ | ⟨v1, v2⟩
        · exact absurd w1 v1
        · rw [w2, v2]
    | succ l =>
      obtain ⟨g1, C, g2, -⟩ := e'
      rcases w with ⟨w1, f, w2, w3⟩ | ⟨w1, w2⟩
      · rw [w2] at g2; cases g2
      · exact absurd w1 g1
  | succ k ih =>
    rintro A B ⟨g1, C, g2, g3⟩ w ⟨l, B', e', w'⟩
    cases l with
    | zero =>
      have e' : A = B' := e'
      subst e'
      rcases w' with ⟨v1, f', v2, v3⟩ | ⟨v1, v2⟩
      · rw [v2] at g2; cases g2
      · exact absurd v1 g1
    | succ l =>
      obtain ⟨u1, C', u2, u3⟩ := e'
      rw [g2] at u2
      cases u2
      exact ih C B g3 w ⟨l, B', u3, w'⟩
theorem zRuns.uniq {b : Nat → Int} {n0 : Nat} {A : zAb} {r r' : (Int × Nat) ⊕ zAb} (h : zRuns b n0 A r) (g : zRuns b n0 A r') : r = r' := by
  obtain ⟨k, B, e, w⟩ := h
  exact zRuns_uniq k A B e w g
/-- what is read, from the beginning to where nothing is open -/
def zBeg (b : Nat → Int) (n0 : Nat) (A : zAb) (r : (Int × Nat) ⊕ zAb) : Prop := (∃ f, zpC b n0 A = .inl f ∧ r = .inl f) ∨ ∃ C, zpC b n0 A = .inr C ∧ zRuns b n0 C r
theorem zBeg.uniq {b : Nat → Int} {n0 : Nat} {A : zAb} {r r' : (Int × Nat) ⊕ zAb} (h : zBeg b n0 A r) (g : zBeg b n0 A r') : r = r' := by
  rcases h with ⟨f, h1, h2⟩ | ⟨C, h1, h2⟩
  · rcases g with ⟨f', g1, g2⟩ | ⟨C', g1, g2⟩
    · rw [h1] at g1; cases g1; rw [h2, g2]
    · rw [h1] at g1; cases g1
  · rcases g with ⟨f', g1, g2⟩ | ⟨C', g1, g2⟩
    · rw [h1] at g1; cases g1
    · rw [h1] at g1; cases g1; exact h2.uniq g2
/-- nothing is left to be bound: the draft is a Show -/
theorem zAv.fin {A : zAb} (h : zAv A) (hs : zSt0 A) : zFin A.D := by
  have e : zneu A.D = A.D := by
    funext r
    by_cases w : r = 4
    · subst w
      funext j
      by_cases q : zunb A.D j
      · obtain ⟨g1, g2, k, g3⟩ := h.2.2.2.2.1 j q
        rw [hs.2, zuo_neg (by decide)] at g3
        omega
      · exact zneu_n q
    · exact zneu_o _ w
  rw [← e]; exact h.1
