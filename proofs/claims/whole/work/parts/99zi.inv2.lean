/-! the Shows that acts leave are fine -/
section FINE
variable {S : zSt}
theorem zfine_mark {c w v : Int} (hF : zFine S) (h : (if ¬ zmOk w v then 1 else if ¬ (0 ≤ c ∧ c < S 0 0) then 2 else if S 7 (9 * c.toNat + w.toNat) = v then 4 else if 1999 < zlast (zOpM S c.toNat w.toNat v) then 7 else 0 : Int) = 0) : zFine (zOpM S c.toNat w.toNat v) := by
  by_cases c1 : ¬ zmOk w v
  · rw [if_pos c1] at h; exact absurd h (by decide)
  rw [if_neg c1] at h
  by_cases c2 : ¬ (0 ≤ c ∧ c < S 0 0)
  · rw [if_pos c2] at h; exact absurd h (by decide)
  rw [if_neg c2] at h
  by_cases c3 : S 7 (9 * c.toNat + w.toNat) = v
  · rw [if_pos c3] at h; exact absurd h (by decide)
  rw [if_neg c3] at h
  by_cases c4 : 1999 < zlast (zOpM S c.toNat w.toNat v)
  · rw [if_pos c4] at h; exact absurd h (by decide)
  have ok := Decidable.not_not.mp c1
  exact ⟨zOpM_fin hF.1 (by unfold zN; omega) (by omega) ⟨ok.2.2.1, ok.2.2.2⟩, by omega⟩
theorem zfine_press {x t : Int} {b : Bool} (hF : zFine S) (h : (if x < 0 ∨ 3 < x ∨ ¬ (0 ≤ t ∧ t ≤ 1999) then 1 else if 6 ≤ S 0 8 then 3 else if b = true then 4 else 0 : Int) = 0) : zFine (zOpP S x t) := by
  by_cases c1 : x < 0 ∨ 3 < x ∨ ¬ (0 ≤ t ∧ t ≤ 1999)
  · rw [if_pos c1] at h; exact absurd h (by decide)
  rw [if_neg c1] at h
  by_cases c2 : 6 ≤ S 0 8
  · rw [if_pos c2] at h; exact absurd h (by decide)
  have z := zOpP_fin hF.1 (x := x) (y := t) (by omega) (by omega) (by omega)
  exact ⟨z.1, by rw [z.2]; exact hF.2⟩
theorem zfine_unpress {i : Int} (hF : zFine S) (h : (if i < 0 then 1 else if S 0 8 ≤ i then 8 else 0 : Int) = 0) : zFine (zOpU S i.toNat) := by
  by_cases c1 : i < 0
  · rw [if_pos c1] at h; exact absurd h (by decide)
  rw [if_neg c1] at h
  by_cases c2 : S 0 8 ≤ i
  · rw [if_pos c2] at h; exact absurd h (by decide)
  have z := zOpU_fin hF.1 (i := i.toNat) (by omega) (zOpU_is S i.toNat)
  exact ⟨z.1, by rw [z.2]; exact hF.2⟩
theorem zfine_move {c p : Int} (hF : zFine S) (h : (if p < 0 ∨ ((0 ≤ c ∧ c < S 0 0) ∧ c ≠ 0 ∧ (zcnt (fun j => decide (S 2 j = S 2 c.toNat)) (zN S) : Int) ≤ p) then 1 else if ¬ (0 ≤ c ∧ c < S 0 0) then 2 else if c = 0 then 5 else if p = S 3 c.toNat then 4 else if 1999 < zlast (zOpV S c.toNat p) then 7 else 0 : Int) = 0) : zFine (zOpV S c.toNat p) := by
  by_cases c1 : p < 0 ∨ ((0 ≤ c ∧ c < S 0 0) ∧ c ≠ 0 ∧ (zcnt (fun j => decide (S 2 j = S 2 c.toNat)) (zN S) : Int) ≤ p)
  · rw [if_pos c1] at h; exact absurd h (by decide)
  rw [if_neg c1] at h
  by_cases c2 : ¬ (0 ≤ c ∧ c < S 0 0)
  · rw [if_pos c2] at h; exact absurd h (by decide)
  rw [if_neg c2] at h
  by_cases c3 : c = 0
  · rw [if_pos c3] at h; exact absurd h (by decide)
  rw [if_neg c3] at h
  by_cases c4 : p = S 3 c.toNat
  · rw [if_pos c4] at h; exact absurd h (by decide)
  rw [if_neg c4] at h
  by_cases c5 : 1999 < zlast (zOpV S c.toNat p)
  · rw [if_pos c5] at h; exact absurd h (by decide)
  exact ⟨zOpV_fin hF.1 (by unfold zN; omega) ⟨by omega, by omega⟩, by omega⟩
theorem zfine_start {c h o m : Int} (hF : zFine S) (hw : (if (h < 0 ∨ 3 < h ∨ m < 0 ∨ (h = 3 ∧ 3 < m) ∨ 999 < m) then 1 else if (¬ (0 ≤ c ∧ c < S 0 0) ∨ ((h = 1 ∨ h = 2) ∧ ¬ (0 ≤ o ∧ o < S 0 0))) then 2 else if (S 4 c.toNat = h ∧ S 5 c.toNat = (if h = 1 ∨ h = 2 then o else -1) ∧ S 6 c.toNat = m) then 4 else if ((h ≠ 0 ∧ ¬ (S 2 c.toNat ≠ -1 ∧ S 1 (S 2 c.toNat).toNat = 1)) ∨ ((h = 1 ∨ h = 2) ∧ S 2 o.toNat ≠ S 2 c.toNat)) then 5 else if ((h = 1 ∨ h = 2) ∧ zlead (S 4) (S 5) c 12 o = true) then 6 else if 1999 < zlast (zOpS S c.toNat h (if h = 1 ∨ h = 2 then o else -1) m) then 7 else 0 : Int) = 0) : zFine (zOpS S c.toNat h (if h = 1 ∨ h = 2 then o else -1) m) := by
  by_cases c1 : (h < 0 ∨ 3 < h ∨ m < 0 ∨ (h = 3 ∧ 3 < m) ∨ 999 < m)
  · rw [if_pos c1] at hw; exact absurd hw (by decide)
  rw [if_neg c1] at hw
  by_cases c2 : (¬ (0 ≤ c ∧ c < S 0 0) ∨ ((h = 1 ∨ h = 2) ∧ ¬ (0 ≤ o ∧ o < S 0 0)))
  · rw [if_pos c2] at hw; exact absurd hw (by decide)
  rw [if_neg c2] at hw
  by_cases c3 : (S 4 c.toNat = h ∧ S 5 c.toNat = (if h = 1 ∨ h = 2 then o else -1) ∧ S 6 c.toNat = m)
  · rw [if_pos c3] at hw; exact absurd hw (by decide)
  rw [if_neg c3] at hw
  by_cases c4 : ((h ≠ 0 ∧ ¬ (S 2 c.toNat ≠ -1 ∧ S 1 (S 2 c.toNat).toNat = 1)) ∨ ((h = 1 ∨ h = 2) ∧ S 2 o.toNat ≠ S 2 c.toNat))
  · rw [if_pos c4] at hw; exact absurd hw (by decide)
  rw [if_neg c4] at hw
  by_cases c5 : ((h = 1 ∨ h = 2) ∧ zlead (S 4) (S 5) c 12 o = true)
  · rw [if_pos c5] at hw; exact absurd hw (by decide)
  rw [if_neg c5] at hw
  by_cases c6 : 1999 < zlast (zOpS S c.toNat h (if h = 1 ∨ h = 2 then o else -1) m)
  · rw [if_pos c6] at hw; exact absurd hw (by decide)
  have hh : 0 ≤ h ∧ h ≤ 3 ∧ 0 ≤ m ∧ m ≤ 999 := by omega
  have hc : 0 ≤ c ∧ c < S 0 0 := by
    refine Decidable.not_not.mp (fun y => c2 (Or.inl y))
  refine ⟨zOpS_fin hF.1 (by unfold zN; omega) ⟨hh.1, hh.2.1⟩ hh.2.2 (fun y => Decidable.not_not.mp (fun z => c4 (Or.inl ⟨y, z⟩))) (fun y => ?_) (fun y => by rw [if_neg (of_decide_eq_false y)]), by omega⟩
  have y2 : h = 1 ∨ h = 2 := of_decide_eq_true y
  have ho : 0 ≤ o ∧ o < S 0 0 := Decidable.not_not.mp (fun z => c2 (Or.inr ⟨y2, z⟩))
  rw [if_pos y2]
  refine ⟨ho.1, by unfold zN; omega, Decidable.not_not.mp (fun z => c4 (Or.inr ⟨y2, z⟩)), ?_⟩
  rw [show ((c.toNat : Nat) : Int) = c by omega]
  exact Bool.eq_false_iff.mpr (fun z => c5 ⟨y2, z⟩)
theorem zfine_add {x y : Int} (hF : zFine S) (h : (if (x < 0 ∨ 2 < x) then 1 else if ((S 0 0 = 0 ∧ y ≠ -1) ∨ (S 0 0 ≠ 0 ∧ ¬ (0 ≤ y ∧ y < S 0 0))) then 2 else if (12 ≤ S 0 0 ∨ 4 < (zdep (S 2) 12 y : Int)) then 3 else if (y ≠ -1 ∧ S 1 y.toNat = 0) then 5 else if 1999 < zlast (zApp S 0 x y (if y = -1 then 0 else (zcnt (fun j => decide (S 2 j = y)) (zN S) : Int))) then 7 else 0 : Int) = 0) : zFine (zApp S 0 x y (if y = -1 then 0 else (zcnt (fun j => decide (S 2 j = y)) (zN S) : Int))) := by
  have hN := hF.1.1.1
  by_cases c1 : x < 0 ∨ 2 < x
  · rw [if_pos c1] at h; exact absurd h (by decide)
  rw [if_neg c1] at h
  by_cases c2 : ((S 0 0 = 0 ∧ y ≠ -1) ∨ (S 0 0 ≠ 0 ∧ ¬ (0 ≤ y ∧ y < S 0 0)))
  · rw [if_pos c2] at h; exact absurd h (by decide)
  rw [if_neg c2] at h
  by_cases c3 : (12 ≤ S 0 0 ∨ 4 < (zdep (S 2) 12 y : Int))
  · rw [if_pos c3] at h; exact absurd h (by decide)
  rw [if_neg c3] at h
  by_cases c4 : (y ≠ -1 ∧ S 1 y.toNat = 0)
  · rw [if_pos c4] at h; exact absurd h (by decide)
  rw [if_neg c4] at h
  by_cases c5 : 1999 < zlast (zApp S 0 x y (if y = -1 then 0 else (zcnt (fun j => decide (S 2 j = y)) (zN S) : Int)))
  · rw [if_pos c5] at h; exact absurd h (by decide)
  have eN : zN S = (S 0 0).toNat := rfl
  exact ⟨zApp_fin hF.1 (by omega) (by omega) (fun y0 => by omega) (fun y0 => ⟨by omega, by omega, fun y1 => c4 ⟨by omega, y1⟩⟩) (by omega), by omega⟩
end FINE
/-! undo, feed, seek, play -/
section INV2
variable {σ τ υ : zSt}
theorem zInv.undo {a a' : Int} (h : zInv σ) (hq : (σ 95 2 = 0 ∧ a = -1 ∧ zCr σ τ 8) ∨ (σ 95 2 ≠ 0 ∧ a = σ 95 2 - 1 ∧ zUnd σ τ)) (hm : (τ 189 1 = 0 ∧ zAcM τ υ a' 8 0 (zSv σ 1) (zSv σ 1)) ∨ (τ 189 1 ≠ 0 ∧ a' = τ 189 1 - 1 ∧ zAF τ υ ∧ υ 189 2 = 0 ∧ υ 189 1 = τ 189 1 - 1 ∧ (∀ j, j < 194 → υ 190 j = τ 190 (194 * (τ 189 1).toNat + j)) ∧ ∀ j, 194 ≤ j → υ 190 j = τ 190 j)) : a = a' ∧ zInv υ := by
  have k7 := h.2.2.2.2.2.1.1
  rcases hq with ⟨q1, q2, q3⟩ | ⟨q1, q2, q3⟩
  · have t1 : τ 189 1 = σ 189 1 := by rw [q3.2.2.1 189 (by decide) (by decide)]
    rcases hm with ⟨_, m2⟩ | ⟨m1, _⟩
    · exact h.act (w := 8) (v := 0) (S' := zSv σ 1) (Or.inl ⟨by decide, q2, q3⟩) m2 (fun y => absurd y (by decide))
    · exact absurd (by rw [t1, ← k7]; exact q1) m1
  · obtain ⟨u1, u2, u3, u4, u5, u6, u7⟩ := q3
    have t9 : τ 189 = σ 189 := u3 189 (by omega)
    rcases hm with ⟨m1, _⟩ | ⟨m1, m2, ⟨f1, f2⟩, m4, m5, m6, m7⟩
    · exact absurd (by rw [t9] at m1; rw [k7]; exact m1) q1
    · refine ⟨by rw [q2, m2, t9, k7], ?_⟩
      obtain ⟨⟨hcl, g1⟩, ⟨-, g2, g3⟩, g4, ⟨L, e1, e2, e3⟩, g6, ⟨g7, g8⟩, g9⟩ := id h
      obtain ⟨ho, hR, hf, hD, hO, b1, b2⟩ := hcl
      have k8 := h.kp
      have u : ∀ a, a < 189 → υ a = τ a := fun a ha => f1 a (by omega)
      obtain ⟨p1, p2⟩ := g8 1 (by omega) (by omega)
      have eK1 : 97 + 10 * ((σ 95 1 + 7) % 8).toNat = zKpt σ 1 := by unfold zKpt; omega
      rw [eK1] at u5
      have ct : zCl τ := ⟨u4, by rw [u3 93 (by omega)]; exact hR, u5.fine p1, zGood_eq (fun r hr => u3 (11 + r) (by omega)) hD, by rw [u3 32 (by omega)]; exact hO, by rw [u6]; omega, by rw [u7]; omega⟩
      have uu : ∀ a, ((93 ≤ a ∧ a < 189 ∧ a ≠ 95) ∨ a = 196 ∨ a = 197 ∨ 216 ≤ a) → υ a = σ a := fun a ha => by rw [f1 a (by omega)]; exact u3 a (by omega)
      have u9 : ∀ j, (j = 4 ∨ j = 11 ∨ j = 12 ∨ j = 13 ∨ j = 49) → υ 189 j = σ 189 j := fun j hj => by rw [f2 j hj, t9]
      have v1 : υ 95 1 = (σ 95 1 + 7) % 8 := by rw [u 95 (by decide)]; exact u6
      have v2 : υ 95 2 = σ 95 2 - 1 := by rw [u 95 (by decide)]; exact u7
      have v3 : υ 189 1 = σ 189 1 - 1 := by rw [m5, t9]
      have t190 : τ 190 = σ 190 := u3 190 (by omega)
      have kr1 := zKpt_r σ 1
      refine ⟨⟨zCl_cg (fun a ha => u a (by omega)) ct, ?_⟩, ⟨by rw [u 0 (by decide), u1, m4], by rw [u 0 (by decide), u2 11 (by decide), u9 12 (by decide)]; exact g2, by rw [u 0 (by decide), u2 12 (by decide), u9 13 (by decide)]; exact g3⟩, by rw [uu 182 (by omega), u9 4 (by decide)]; exact g4, ⟨L, e1, ?_, ?_⟩, by rw [uu 177 (by omega), uu 178 (by omega), uu 196 (by omega), u9 11 (by decide)]; exact g6, ⟨by rw [v2, v3, g7], fun i i1 i2 => ?_⟩, by rw [uu 197 (by omega)]; exact g9⟩
      · refine ((zSv_eqv (fun q hq => u (1 + q) (by omega))).tr ((u5.eqv p1.1.1).sym)).tr (zMw_blk p1.1.b (c := σ 190) (o := 194 * ((σ 189 1).toNat + 1 - 1)) (fun j hj => ?_) p2)
        rw [Nat.zero_add, m6 j hj, t190, t9, Nat.add_sub_cancel]
      · unfold zRp
        rw [uu 182 (by omega), uu 183 (by omega), uu 184 (by omega), uu 185 (by omega), uu 186 (by omega)]
        exact e2
      · unfold zRq
        rw [u9 49 (by decide), uu 216 (by omega), uu 217 (by omega), uu 218 (by omega), uu 219 (by omega)]
        exact e3
      · rw [v2] at i2
        obtain ⟨w1, w2⟩ := g8 (i + 1) (by omega) (by omega)
        have kr := zKpt_r σ (i + 1)
        have eK : zKpt υ i = zKpt σ (i + 1) := by unfold zKpt; rw [v1]; omega
        have er : ∀ q, q < 10 → υ (zKpt σ (i + 1) + q) = σ (zKpt σ (i + 1) + q) := fun q hq => uu _ (by omega)
        rw [eK]
        refine ⟨(zSv_same er).fine w1, (zSv_eqv er).tr (zMw_blk w1.1.b (c := σ 190) (o := 194 * ((σ 189 1).toNat + 1 - (i + 1))) (fun j hj => ?_) w2)⟩
        rw [m7 _ (by omega), t190, show (υ 189 1).toNat + 1 - i = (σ 189 1).toNat + 1 - (i + 1) by omega]
theorem zInv.seek {t a a' v : Int} (h : zInv σ) (hq : (¬ (0 ≤ t ∧ t ≤ 1999) ∧ zRes σ τ a 1 0) ∨ ((0 ≤ t ∧ t ≤ 1999) ∧ zRes (zs σ 182 0 t) τ a 0 v)) (hm : (¬ (0 ≤ t ∧ t ≤ 1999) ∧ zRM τ υ a' 1 0) ∨ ((0 ≤ t ∧ t ≤ 1999) ∧ zRM (zs τ 189 4 t) υ a' 0 v)) : a = a' ∧ zInv υ := by
  rcases hq with ⟨c1, q1, q2, q3⟩ | ⟨c1, q1, q2, q3⟩
  · rcases hm with ⟨_, m1, m2, m3⟩ | ⟨c2, _⟩
    · exact ⟨by rw [q3, m3], h.ask q1 m1 (by rw [q2, m2])⟩
    · exact absurd c2 c1
  · rcases hm with ⟨c2, _⟩ | ⟨_, m1, m2, m3⟩
    · exact absurd c1 c2
    · refine ⟨by rw [q3, m3], ?_⟩
      obtain ⟨⟨hcl, g1⟩, ⟨g0, g2, g3⟩, g4, ⟨L, e1, e2, e3⟩, g6, ⟨g7, g8⟩, g9⟩ := id h
      have o : ∀ a, a ≠ 182 → a ≠ 189 → zs (zs σ 182 0 t) 189 4 t a = σ a := fun a h1 h2 => by rw [zs_other h2, zs_other h1]
      have o9 : ∀ j, j ≠ 4 → zs (zs σ 182 0 t) 189 4 t 189 j = σ 189 j := fun j hj => by rw [zs_ne (by omega), zs_other (by decide)]
      have h2 : zInv (zs (zs σ 182 0 t) 189 4 t) := by
        refine ⟨⟨zCl_cg (fun a ha => o a (by omega) (by omega)) hcl, ?_⟩, ⟨by rw [o 0 (by decide) (by decide), o9 2 (by decide)]; exact g0, by rw [o 0 (by decide) (by decide), o9 12 (by decide)]; exact g2, by rw [o 0 (by decide) (by decide), o9 13 (by decide)]; exact g3⟩, ⟨by rw [zs_eq, zs_other (by decide), zs_eq], by rw [zs_other (by decide), zs_eq]; exact c1⟩, ⟨L, e1, ?_, ?_⟩, by rw [o 177 (by decide) (by decide), o 178 (by decide) (by decide), o 196 (by decide) (by decide), o9 11 (by decide)]; exact g6, ⟨by rw [o 95 (by decide) (by decide), o9 1 (by decide)]; exact g7, fun i i1 i2 => ?_⟩, by rw [o 197 (by decide) (by decide)]; exact g9⟩
        · rw [o 190 (by decide) (by decide)]
          exact (zSv_eqv (fun q hq => o (1 + q) (by omega) (by omega))).tr g1
        · unfold zRp
          rw [zs_other (show (182 : Nat) ≠ 189 by decide), zs_ne (show ¬ ((182 : Nat) = 182 ∧ (1 : Nat) = 0) by decide), o 183 (by decide) (by decide), o 184 (by decide) (by decide), o 185 (by decide) (by decide), o 186 (by decide) (by decide)]
          exact e2
        · unfold zRq
          rw [o9 49 (by decide), o 216 (by decide) (by decide), o 217 (by decide) (by decide), o 218 (by decide) (by decide), o 219 (by decide) (by decide)]
          exact e3
        · rw [o 95 (by decide) (by decide)] at i2
          obtain ⟨w1, w2⟩ := g8 i i1 i2
          have kr := zKpt_r σ i
          have eK : zKpt (zs (zs σ 182 0 t) 189 4 t) i = zKpt σ i := by unfold zKpt; rw [o 95 (by decide) (by decide)]
          rw [eK, o 190 (by decide) (by decide), o9 1 (by decide)]
          exact ⟨(zSv_same (fun q hq => o _ (by omega) (by omega))).fine w1, (zSv_eqv (fun q hq => o _ (by omega) (by omega))).tr w2⟩
      obtain ⟨r1, r2, r3, r4⟩ := q1
      have o182 : zs σ 182 0 t 189 = σ 189 := zs_other (by decide)
      refine h2.ask (τ := zs τ 189 4 t) ⟨fun a h1 h2 h3 h4 => ?_, ?_, ?_, fun j hj => ?_⟩ m1 ?_
      · by_cases e : a = 189
        · rw [e, zs_row, zs_row, r1 189 (by omega) (by omega) (by omega) (by omega)]
        · rw [zs_other e, zs_other e]; exact r1 a h1 h2 h3 h4
      · exact zOn_cg (fun a ha => zs_other (by omega)) r2
      · rw [zs_other (by decide)]; exact r3
      · rw [zs_other (by decide), zs_other (by decide)]; exact r4 j hj
      · rw [zs_other (by decide), q2, m2]
theorem zInv.play {u a a' : Int} (h : zInv σ) (hq : (¬ (1 ≤ u ∧ u ≤ 200 ∧ σ 182 0 + u ≤ 1999) ∧ zRes σ τ a 1 0) ∨ ((1 ≤ u ∧ u ≤ 200 ∧ σ 182 0 + u ≤ 1999) ∧ ∃ ρ, zGo σ ρ u.toNat ∧ τ = zs ρ 0 10 0 ∧ a = ((zlog (zSv σ 1) (σ 182 0) u.toNat).length : Int))) (hm : (¬ (1 ≤ u ∧ u ≤ 200 ∧ τ 189 4 + u ≤ 1999) ∧ zRM τ υ a' 1 0) ∨ ((1 ≤ u ∧ u ≤ 200 ∧ τ 189 4 + u ≤ 1999) ∧ zMP τ υ ∧ υ 189 2 = 0 ∧ υ 189 4 = τ 189 4 + u ∧ zRq υ (zlog (zSv σ 1) (τ 189 4) u.toNat) ∧ a' = ((zlog (zSv σ 1) (τ 189 4) u.toNat).length : Int))) : a = a' ∧ zInv υ := by
  have g4 := h.2.2.1
  rcases hq with ⟨c1, q1, q2, q3⟩ | ⟨c1, ρ, q1, q2, q3⟩
  · have t9 : τ 189 = σ 189 := q1.1 189 (by omega) (by omega) (by omega) (by omega)
    rcases hm with ⟨_, m1, m2, m3⟩ | ⟨c2, _⟩
    · exact ⟨by rw [q3, m3], h.ask q1 m1 (by rw [q2, m2])⟩
    · exact absurd (by rw [t9, ← g4.1] at c2; exact c2) c1
  · obtain ⟨r1, r2, r3, r4⟩ := q1
    have t9 : τ 189 = σ 189 := by rw [q2, zs_other (by decide), r1 189 (by omega)]
    rcases hm with ⟨c2, _⟩ | ⟨_, ⟨m1, m2⟩, m3, m4, m5, m6⟩
    · exact absurd (by rw [g4.1, ← t9] at c1; exact c1) c2
    · rw [t9, ← g4.1] at m4 m5 m6
      refine ⟨by rw [q3, m6], ?_⟩
      obtain ⟨⟨hcl, g1⟩, ⟨-, g2, g3⟩, -, -, g6, ⟨g7, g8⟩, g9⟩ := id h
      obtain ⟨ho, hR, hf, hD, hO, b1, b2⟩ := hcl
      have u' : ∀ a, a < 189 → υ a = τ a := fun a ha => m1 a (by omega)
      have tr : ∀ a, a ≠ 0 → (a < 34 ∨ (42 ≤ a ∧ a < 182) ∨ 189 ≤ a) → τ a = σ a := fun a h0 ha => by rw [q2, zs_other h0]; exact r1 a ha
      have t0 : ∀ j, j ≠ 10 → τ 0 j = σ 0 j := fun j hj => by rw [q2, zs_ne (by omega), r1 0 (by omega)]
      have r33 : ∀ a, a < 34 → ρ a = σ a := fun a ha => r1 a (by omega)
      have on : zOn ρ := ⟨zGood_eq (fun r hr => r33 (1 + r) (by omega)) ho.1, ((zSv_same (fun r hr => r33 (1 + r) (by omega))).fine hf).1.2.1, r2⟩
      have ct : zCl τ := ⟨zOn_cg (fun a ha => by rw [q2, zs_other (by omega)]) on, by rw [tr 93 (by omega) (by omega)]; exact hR, (zSv_same (fun r hr => tr (1 + r) (by omega) (by omega))).fine hf, zGood_eq (fun r hr => tr (11 + r) (by omega) (by omega)) hD, by rw [tr 32 (by omega) (by omega)]; exact hO, by rw [tr 95 (by omega) (by omega)]; exact b1, by rw [tr 95 (by omega) (by omega)]; exact b2⟩
      have uu : ∀ a, a ≠ 0 → (a < 34 ∨ (42 ≤ a ∧ a < 182) ∨ a = 190 ∨ a = 196 ∨ a = 197) → υ a = σ a := fun a h0 ha => by rw [m1 a (by omega)]; exact tr a h0 (by omega)
      have u9 : ∀ j, (j = 1 ∨ j = 11 ∨ j = 12 ∨ j = 13) → υ 189 j = σ 189 j := fun j hj => by rw [m2 j hj, t9]
      have k95 : υ 95 = σ 95 := uu 95 (by omega) (by omega)
      have ur : ∀ a, 182 ≤ a → a < 189 → υ a = ρ a := fun a h1 h2 => by rw [u' a h2, q2, zs_other (by omega)]
      refine ⟨⟨zCl_cg (fun a ha => u' a (by omega)) ct, ?_⟩, ⟨by rw [u' 0 (by decide), q2, zs_eq, m3], by rw [u' 0 (by decide), t0 11 (by decide), u9 12 (by decide)]; exact g2, by rw [u' 0 (by decide), t0 12 (by decide), u9 13 (by decide)]; exact g3⟩, ⟨by rw [ur 182 (by omega) (by omega), r3, m4]; omega, by rw [ur 182 (by omega) (by omega), r3]; omega⟩, ⟨_, ?_, ?_, m5⟩, by rw [uu 177 (by omega) (by omega), uu 178 (by omega) (by omega), uu 196 (by omega) (by omega), u9 11 (by decide)]; exact g6, ⟨by rw [k95, u9 1 (by decide)]; exact g7, fun i i1 i2 => ?_⟩, by rw [uu 197 (by omega) (by omega)]; exact g9⟩
      · rw [uu 190 (by omega) (by omega)]
        exact (zSv_eqv (fun q hq => uu (1 + q) (by omega) (by omega))).tr g1
      · have z := zlog_len (zSv σ 1) (σ 182 0) hf.1.b.1 u.toNat
        omega
      · unfold zRp
        rw [ur 182 (by omega) (by omega), ur 183 (by omega) (by omega), ur 184 (by omega) (by omega), ur 185 (by omega) (by omega), ur 186 (by omega) (by omega)]
        exact r4
      · rw [k95] at i2
        obtain ⟨w1, w2⟩ := g8 i i1 i2
        have kr := zKpt_r σ i
        have eK : zKpt υ i = zKpt σ i := by unfold zKpt; rw [k95]
        rw [eK, uu 190 (by omega) (by omega), u9 1 (by decide)]
        exact ⟨(zSv_same (fun q hq => uu _ (by omega) (by omega))).fine w1, (zSv_eqv (fun q hq => uu _ (by omega) (by omega))).tr w2⟩
/-- the tapes of both -/
def zTpR (c m : zSt) : Prop := c 177 1 = m 189 11 ∧ (0 ≤ c 177 1 ∧ c 177 1 ≤ 600) ∧ zBt (c 178) ∧ zBm (c 178) (m 196)
theorem zTpR.st {c m c' m' : zSt} {x : Int} (h : zTpR c m) (h1 : zTape c c' x 4) (h2 : zTapM m m' x 4) (hl : c 177 1 + 4 ≤ 600) : zTpR c' m' ∧ c' 177 1 = c 177 1 + 4 := by
  obtain ⟨e, r, hb, hm⟩ := h
  obtain ⟨a1, a2, a3, a4⟩ := h1
  obtain ⟨b1, b2, b3, b4⟩ := h2
  have l1 : c' 177 1 = c 177 1 + 4 := by rw [a1, zu_eq]; rfl
  have l2 : m' 189 11 = m 189 11 + 4 := by rw [b1, zu_eq]; rfl
  have key : ∀ j, j < 600 → (0 ≤ c' 178 j ∧ c' 178 j ≤ 255) ∧ -128 ≤ m' 196 j ∧ m' 196 j ≤ 127 ∧ c' 178 j = m' 196 j % 256 := fun j hj => by
    by_cases z : (c 177 1).toNat ≤ j ∧ j < (c 177 1).toNat + 4
    · have p1 := a2 (j - (c 177 1).toNat) (by omega)
      have p2 := b2 (j - (m 189 11).toNat) (by omega)
      rw [show (c 177 1).toNat + (j - (c 177 1).toNat) = j by omega] at p1
      rw [show (m 189 11).toNat + (j - (m 189 11).toNat) = j by omega, show j - (m 189 11).toNat = j - (c 177 1).toNat by rw [e]] at p2
      have q1 := zsbyte_mod x (j - (c 177 1).toNat)
      have q2 := zsbyte_r x (j - (c 177 1).toNat)
      rw [p1, p2]
      omega
    · rw [a3 j (by omega), b3 j (by omega)]
      have q1 := hb j hj
      have q2 := hm j hj
      omega
  refine ⟨⟨by rw [l1, l2, e], by omega, fun j hj => (key j hj).1, fun j hj => (key j hj).2⟩, l1⟩
theorem zTape.o {c c' : zSt} {x : Int} (h : zTape c c' x 4) : ∀ a, a ≠ 177 → a ≠ 178 → c' a = c a := h.2.2.2
theorem zTapM.o {c c' : zSt} {x : Int} (h : zTapM c c' x 4) : (∀ a, a ≠ 189 → a ≠ 196 → c' a = c a) ∧ ∀ j, j ≠ 11 → c' 189 j = c 189 j := ⟨h.2.2.2, fun j hj => by rw [h.1, zu_ne hj]⟩
theorem zInv.feed {a b c d e x x' : Int} (h : zInv σ) (hq : (580 < σ 177 1 ∧ x = -1 ∧ τ = σ) ∨ (σ 177 1 ≤ 580 ∧ x = σ 177 1 + 20 ∧ ∃ t1 t2 t3 t4, zTape σ t1 a 4 ∧ zTape t1 t2 b 4 ∧ zTape t2 t3 c 4 ∧ zTape t3 t4 d 4 ∧ zTape t4 τ e 4)) (hm : (580 < τ 189 11 ∧ x' = -1 ∧ υ = zs τ 189 3 0) ∨ (τ 189 11 ≤ 580 ∧ x' = τ 189 11 + 20 ∧ ∃ t1 t2 t3 t4, zTapM (zs τ 189 3 0) t1 a 4 ∧ zTapM t1 t2 b 4 ∧ zTapM t2 t3 c 4 ∧ zTapM t3 t4 d 4 ∧ zTapM t4 υ e 4)) : x = x' ∧ zInv υ := by
  have g6 := h.2.2.2.2.1
  rcases hq with ⟨q1, q2, q3⟩ | ⟨q1, q2, t1, t2, t3, t4, k1, k2, k3, k4, k5⟩
  · subst q3
    rcases hm with ⟨_, m2, m3⟩ | ⟨m1, _⟩
    · refine ⟨by rw [q2, m2], ?_⟩
      rw [m3]
      exact h.mv (fun a ha => zs_other (by omega)) (fun j hj => zs_ne (by omega)) ⟨by rw [zs_other (by decide)], by rw [zs_other (by decide)]⟩ (by rw [zs_other (by decide), zs_ne (by decide)]; exact h.2.1.1) (zCl_cg (fun a ha => zs_other (by omega)) h.1.1)
    · exact absurd q1 (by rw [g6.1]; omega)
  · have to : ∀ a, a ≠ 177 → a ≠ 178 → τ a = σ a := fun a h1 h2 => by rw [k5.o a h1 h2, k4.o a h1 h2, k3.o a h1 h2, k2.o a h1 h2, k1.o a h1 h2]
    have t9 : τ 189 = σ 189 := to 189 (by decide) (by decide)
    rcases hm with ⟨m1, _⟩ | ⟨m1, m2, s1, s2, s3, s4, l1, l2, l3, l4, l5⟩
    · exact absurd m1 (by rw [t9, ← g6.1]; omega)
    · refine ⟨by rw [q2, m2, t9, g6.1], ?_⟩
      have z0 : zTpR σ (zs τ 189 3 0) := ⟨by rw [zs_ne (by decide), t9]; exact g6.1, g6.2.1, g6.2.2.1, by rw [zs_other (by decide), to 196 (by decide) (by decide)]; exact g6.2.2.2⟩
      obtain ⟨z1, w1⟩ := z0.st k1 l1 (by omega)
      obtain ⟨z2, w2⟩ := z1.st k2 l2 (by omega)
      obtain ⟨z3, w3⟩ := z2.st k3 l3 (by omega)
      obtain ⟨z4, w4⟩ := z3.st k4 l4 (by omega)
      obtain ⟨z5, w5⟩ := z4.st k5 l5 (by omega)
      have mo : ∀ a, a ≠ 189 → a ≠ 196 → υ a = τ a := fun a h1 h2 => by rw [l5.o.1 a h1 h2, l4.o.1 a h1 h2, l3.o.1 a h1 h2, l2.o.1 a h1 h2, l1.o.1 a h1 h2, zs_other h1]
      have mj : ∀ j, j ≠ 11 → j ≠ 3 → υ 189 j = σ 189 j := fun j h1 h2 => by rw [l5.o.2 j h1, l4.o.2 j h1, l3.o.2 j h1, l2.o.2 j h1, l1.o.2 j h1, zs_ne (by omega), t9]
      have uu : ∀ a, a ≠ 177 → a ≠ 178 → a ≠ 189 → a ≠ 196 → υ a = σ a := fun a h1 h2 h3 h4 => by rw [mo a h3 h4]; exact to a h1 h2
      obtain ⟨⟨hcl, g1⟩, ⟨g0, g2, g3⟩, g4, ⟨L, e1, e2, e3⟩, -, ⟨g7, g8⟩, g9⟩ := id h
      refine ⟨⟨zCl_cg (fun a ha => uu a (by omega) (by omega) (by omega) (by omega)) hcl, ?_⟩, ⟨by rw [uu 0 (by decide) (by decide) (by decide) (by decide), mj 2 (by decide) (by decide)]; exact g0, by rw [uu 0 (by decide) (by decide) (by decide) (by decide), mj 12 (by decide) (by decide)]; exact g2, by rw [uu 0 (by decide) (by decide) (by decide) (by decide), mj 13 (by decide) (by decide)]; exact g3⟩, by rw [uu 182 (by decide) (by decide) (by decide) (by decide), mj 4 (by decide) (by decide)]; exact g4, ⟨L, e1, ?_, ?_⟩, by rw [mo 177 (by decide) (by decide), mo 178 (by decide) (by decide)]; exact z5, ⟨by rw [uu 95 (by decide) (by decide) (by decide) (by decide), mj 1 (by decide) (by decide)]; exact g7, fun i i1 i2 => ?_⟩, by rw [uu 197 (by decide) (by decide) (by decide) (by decide)]; exact g9⟩
      · rw [uu 190 (by decide) (by decide) (by decide) (by decide)]
        exact (zSv_eqv (fun q hq => uu (1 + q) (by omega) (by omega) (by omega) (by omega))).tr g1
      · unfold zRp
        rw [uu 182 (by decide) (by decide) (by decide) (by decide), uu 183 (by decide) (by decide) (by decide) (by decide), uu 184 (by decide) (by decide) (by decide) (by decide), uu 185 (by decide) (by decide) (by decide) (by decide), uu 186 (by decide) (by decide) (by decide) (by decide)]
        exact e2
      · unfold zRq
        rw [mj 49 (by decide) (by decide), uu 216 (by decide) (by decide) (by decide) (by decide), uu 217 (by decide) (by decide) (by decide) (by decide), uu 218 (by decide) (by decide) (by decide) (by decide), uu 219 (by decide) (by decide) (by decide) (by decide)]
        exact e3
      · rw [uu 95 (by decide) (by decide) (by decide) (by decide)] at i2
        obtain ⟨y1, y2⟩ := g8 i i1 i2
        have kr := zKpt_r σ i
        have eK : zKpt υ i = zKpt σ i := by unfold zKpt; rw [uu 95 (by decide) (by decide) (by decide) (by decide)]
        rw [eK, uu 190 (by decide) (by decide) (by decide) (by decide), mj 1 (by decide) (by decide)]
        exact ⟨(zSv_same (fun q hq => uu _ (by omega) (by omega) (by omega) (by omega))).fine y1, (zSv_eqv (fun q hq => uu _ (by omega) (by omega) (by omega) (by omega))).tr y2⟩
end INV2
