/-! load; the beginning -/
section INV3
variable {σ τ υ : zSt}
/-- what load of the class leaves alone -/
theorem zLd_o {x a : Int} (hq : ((x < 0 ∨ σ 177 1 < x) ∧ a = -1 ∧ τ = zs σ 0 10 1) ∨ (¬ (x < 0 ∨ σ 177 1 < x) ∧ ∃ s ρ, zRead (σ 178) x.toNat (zA00 (σ 178) x.toNat σ) s ∧ zLdf σ ρ ∧ zLdo σ ρ a τ s)) : ∀ q, 189 ≤ q → τ q = σ q := by
  intro q hq'
  rcases hq with ⟨_, _, e⟩ | ⟨_, s, ρ, _, h1, h2⟩
  · rw [e, zs_other (by omega)]
  · have e1 : ρ q = σ q := h1.1 q (by omega) (by omega) (by omega) (by omega) (by omega) (by omega) (by omega)
    cases s with
    | inl f =>
      obtain ⟨_, e2, _⟩ := h2
      rw [e2, zs_other (by omega)]; exact e1
    | inr B =>
      obtain ⟨_, hd, _⟩ := h2
      rw [hd.2.2.1 q (by omega)]; exact e1
theorem zInv.load {x a a' : Int} (h : zInv σ) (hq : ((x < 0 ∨ σ 177 1 < x) ∧ a = -1 ∧ τ = zs σ 0 10 1) ∨ (¬ (x < 0 ∨ σ 177 1 < x) ∧ ∃ s ρ, zRead (σ 178) x.toNat (zA00 (σ 178) x.toNat σ) s ∧ zLdf σ ρ ∧ zLdo σ ρ a τ s)) (hm : ((x < 0 ∨ τ 189 11 < x) ∧ zAcM τ υ a' 1 0 (zSv σ 1) (zSv σ 1)) ∨ (¬ (x < 0 ∨ τ 189 11 < x) ∧ ∃ s, zRead (σ 178) x.toNat (zA00 (σ 178) x.toNat σ) s ∧ zLdM τ υ a' (zSv σ 1) s)) : a = a' ∧ zInv υ := by
  have to := zLd_o hq
  have t9 : τ 189 = σ 189 := to 189 (by decide)
  have g6 := h.2.2.2.2.1
  rcases hq with ⟨c1, q2, q3⟩ | ⟨c1, s, ρ, q2, q3, q4⟩
  · rcases hm with ⟨_, m2⟩ | ⟨c2, _⟩
    · exact h.act (w := 1) (v := 0) (S' := zSv σ 1) (Or.inl ⟨by decide, q2, by rw [q3]; exact zCr_no h.1.1⟩) m2 (fun y => absurd y (by decide))
    · exact absurd (by rw [t9, ← g6.1]; exact c1) c2
  · rcases hm with ⟨c2, _⟩ | ⟨_, s', m2, m3⟩
    · exact absurd (by rw [t9, ← g6.1] at c2; exact c2) c1
    · have es : s = s' := q2.uniq m2
      subst es
      have cρ := q3.cl h.1.1
      obtain ⟨r1, r2, r3, r4, r5, r6⟩ := q3
      obtain ⟨n1, n2, n3⟩ := m3
      obtain ⟨⟨hcl, g1⟩, ⟨g0, g2, g3⟩, g4, ⟨L, e1, e2, e3⟩, -, ⟨g7, g8⟩, g9⟩ := id h
      obtain ⟨ho, hR, hf, hD, hO, b1, b2⟩ := hcl
      have k8 := h.kp
      have u : ∀ a, a < 189 → υ a = τ a := fun a ha => n1 a (by omega)
      have rr : ∀ a, a ≠ 0 → (a < 11 ∨ (20 < a ∧ a < 27) ∨ (32 < a ∧ a < 177) ∨ a = 178 ∨ 183 ≤ a) → ρ a = σ a := fun a h0 ha => r1 a h0 (by omega) (by omega) (by omega) (by omega) (by omega) (by omega)
      cases s with
      | inl f =>
        obtain ⟨a1, a2, a3, a4, a5, a6⟩ := q4
        obtain ⟨l1, l2, ⟨l3, l4⟩, ⟨l5, l6, l7⟩, l8, l9⟩ := n3
        refine ⟨by rw [a1, l1], ?_⟩
        have tr : ∀ a, a ≠ 0 → τ a = ρ a := fun a h0 => by rw [a2, zs_other h0]
        have t0 : ∀ j, j ≠ 10 → τ 0 j = ρ 0 j := fun j hj => by rw [a2, zs_ne (by omega)]
        have ct : zCl τ := zCl_cg (fun a ha => tr a (by omega)) cρ
        have uu : ∀ a, a ≠ 0 → a < 189 → υ a = ρ a := fun a h0 ha => by rw [u a ha]; exact tr a h0
        have us : ∀ a, a ≠ 0 → (a < 11 ∨ (20 < a ∧ a < 27) ∨ (32 < a ∧ a < 177) ∨ a = 178 ∨ (183 ≤ a ∧ a < 189)) → υ a = σ a := fun a h0 ha => by rw [uu a h0 (by omega)]; exact rr a h0 (by omega)
        have hi : ∀ a, (a = 196 ∨ a = 197 ∨ 216 ≤ a) → υ a = σ a := fun a ha => by rw [n1 a (by omega)]; exact to a (by omega)
        have k95 : υ 95 = σ 95 := us 95 (by omega) (by omega)
        have e182 : υ 182 = σ 182 := by rw [uu 182 (by omega) (by omega)]; exact a6
        have e177 : υ 177 1 = 0 := by rw [uu 177 (by omega) (by omega)]; exact r3
        refine ⟨⟨zCl_cg (fun a ha => u a (by omega)) ct, (zSv_eqv (fun q hq => us (1 + q) (by omega) (by omega))).tr l8⟩, ⟨by rw [u 0 (by decide), a2, zs_eq, l2], by rw [u 0 (by decide), t0 11 (by decide), a3, l3], by rw [u 0 (by decide), t0 12 (by decide), a5, l4]⟩, by rw [e182, l6, t9]; exact g4, ⟨L, e1, ?_, ?_⟩, ⟨by rw [e177, n2], by rw [e177]; decide, by rw [us 178 (by omega) (by omega)]; exact g6.2.2.1, by rw [us 178 (by omega) (by omega), hi 196 (by omega)]; exact g6.2.2.2⟩, ⟨by rw [k95, l5, t9]; exact g7, fun i i1 i2 => ?_⟩, by rw [hi 197 (by omega)]; exact g9⟩
        · unfold zRp
          rw [e182, us 183 (by omega) (by omega), us 184 (by omega) (by omega), us 185 (by omega) (by omega), us 186 (by omega) (by omega)]
          exact e2
        · unfold zRq
          rw [l7, t9, hi 216 (by omega), hi 217 (by omega), hi 218 (by omega), hi 219 (by omega)]
          exact e3
        · rw [k95] at i2
          obtain ⟨w1, w2⟩ := g8 i i1 i2
          have kr := zKpt_r σ i
          have eK : zKpt υ i = zKpt σ i := by unfold zKpt; rw [k95]
          rw [eK, l5, t9]
          rw [g7] at i2
          refine ⟨(zSv_same (fun q hq => us (zKpt σ i + q) (by omega) (by omega))).fine w1, (zSv_eqv (fun q hq => us (zKpt σ i + q) (by omega) (by omega))).tr (zMw_blk w1.1.b (c := σ 190) (o := 194 * ((σ 189 1).toNat + 1 - i)) (fun j hj => ?_) w2)⟩
          rw [l9 _ (by omega) (by omega), to 190 (by decide)]
      | inr B =>
        obtain ⟨a1, hd, a3, FS, a5, a6, a7⟩ := q4
        obtain ⟨l1, l2, ⟨l3, l4⟩, ⟨l5, l6⟩, l7, l8, l9, l10⟩ := n3
        refine ⟨by rw [a1, l1], ?_⟩
        obtain ⟨d1, d2, d3, d4, d5, d6, d7, d8, d9, d10, d11⟩ := hd
        have F2 : zFine (zSv ρ 11) := a3.fine FS
        have r95 : ρ 95 = σ 95 := rr 95 (by omega) (by omega)
        have ct : zCl τ := ⟨d4, by rw [d3 93 (by omega), rr 93 (by omega) (by omega)]; exact hR, d5.fine F2, d6, d7, by rw [d10]; omega, by rw [d11, r95]; omega⟩
        have v1 : υ 95 1 = (σ 95 1 + 1) % 8 := by rw [u 95 (by decide), d10, r95]
        have v2 : υ 95 2 = min (σ 95 2 + 1) 8 := by rw [u 95 (by decide), d11, r95]
        have v3 : υ 189 1 = min (σ 189 1 + 1) 8 := by rw [l8, t9]
        have hi : ∀ a, (a = 196 ∨ a = 197 ∨ 216 ≤ a) → υ a = σ a := fun a ha => by rw [n1 a (by omega)]; exact to a (by omega)
        have e182 : υ 182 = zu (zu (σ 182) 0 0) 1 0 := by rw [u 182 (by decide), d3 182 (by omega)]; exact a7
        have e177 : υ 177 1 = 0 := by rw [u 177 (by decide), d3 177 (by omega)]; exact r3
        have e178 : υ 178 = σ 178 := by rw [u 178 (by decide), d3 178 (by omega)]; exact rr 178 (by omega) (by omega)
        have d8' : zSame2 (zSv τ (97 + 10 * (σ 95 1).toNat)) (zSv σ 1) := by
          rw [r95] at d8
          exact d8.tr (zSv_same (fun q hq => rr (1 + q) (by omega) (by omega)))
        refine ⟨⟨zCl_cg (fun a ha => u a (by omega)) ct, ?_⟩, ⟨by rw [u 0 (by decide), d1, l2], by rw [u 0 (by decide), d2 11 (by decide), a5, l3], by rw [u 0 (by decide), d2 12 (by decide), a6, l4]⟩, ⟨by rw [e182, l5, zu_ne (by decide), zu_eq], by rw [e182, zu_ne (by decide), zu_eq]; decide⟩, ⟨[], by decide, ⟨by rw [e182, zu_eq]; rfl, fun i _ hi => absurd hi (Nat.not_lt_zero _)⟩, ⟨by rw [l6]; rfl, fun i _ hi => absurd hi (Nat.not_lt_zero _)⟩⟩, ⟨by rw [e177, n2], by rw [e177]; decide, by rw [e178]; exact g6.2.2.1, by rw [e178, hi 196 (by omega)]; exact g6.2.2.2⟩, ⟨by rw [v2, v3, g7], fun i i1 i2 => ?_⟩, by rw [hi 197 (by omega)]; exact g9⟩
        · exact ((zSv_eqv (fun q hq => u (1 + q) (by omega))).tr (((d5.tr a3).eqv FS.1.1).sym)).tr l7
        · rw [v2] at i2
          by_cases i0 : i = 1
          · have eK : zKpt υ i = 97 + 10 * (σ 95 1).toNat := by unfold zKpt; rw [v1, i0]; omega
            rw [eK, i0, Nat.add_sub_cancel]
            have q1 : zSame2 (zSv υ (97 + 10 * (σ 95 1).toNat)) (zSv σ 1) := (zSv_same (fun q hq => u _ (by omega))).tr d8'
            exact ⟨q1.fine hf, ((q1.eqv hf.1.1).sym).tr l9⟩
          · obtain ⟨w1, w2⟩ := g8 (i - 1) (by omega) (by omega)
            have kr := zKpt_r σ (i - 1)
            have eK : zKpt υ i = zKpt σ (i - 1) := by unfold zKpt; rw [v1]; omega
            have er : ∀ q, q < 10 → υ (zKpt σ (i - 1) + q) = σ (zKpt σ (i - 1) + q) := fun q hq => by
              rw [u _ (by omega)]
              have z := d9 ((σ 95 1 - ((i - 1 : Nat) : Int)) % 8).toNat (by omega) (by rw [r95]; omega) q hq
              have z2 : τ (zKpt σ (i - 1) + q) = ρ (zKpt σ (i - 1) + q) := by unfold zKpt; exact z
              rw [z2]
              exact rr _ (by omega) (by omega)
            rw [eK]
            refine ⟨(zSv_same er).fine w1, (zSv_eqv er).tr (zMw_blk w1.1.b (c := σ 190) (o := 194 * ((σ 189 1).toNat + 1 - (i - 1))) (fun j hj => ?_) w2)⟩
            have z := l10 (i - 1) (by omega) (by omega) j hj
            rw [show (υ 189 1).toNat + 1 - i = (υ 189 1).toNat - (i - 1) by omega, z, t9, to 190 (by decide)]
/-- fresh objects -/
theorem zInv_new (h : zNew σ) (h1 : ∀ a, a ≠ 189 → a ≠ 197 → τ a = σ a) (h2 : ∀ j, j ≠ 12 → j ≠ 13 → τ 189 j = σ 189 j) (h3 : τ 189 12 = -1 ∧ τ 189 13 = -1) (h4 : ∀ k, k < 16 → τ 197 k = zke.getD k 0) : zInv τ := by
  have hc := h.cl
  obtain ⟨k1, k2, k3, k4, k5⟩ := h
  have z : ∀ a, ((1 ≤ a ∧ a < 21) ∨ 93 ≤ a) → a ≠ 189 → a ≠ 197 → τ a = fun _ => 0 := fun a ha h5 h6 => by rw [h1 a h5 h6]; exact k2 a (by omega)
  have z9 : ∀ j, j ≠ 12 → j ≠ 13 → τ 189 j = 0 := fun j h5 h6 => by rw [h2 j h5 h6, k2 189 (by omega)]
  have z1 := z 1 (by omega) (by decide) (by decide)
  have z95 := z 95 (by omega) (by decide) (by decide)
  have z182 := z 182 (by omega) (by decide) (by decide)
  have z177 := z 177 (by omega) (by decide) (by decide)
  have z190 := z 190 (by omega) (by decide) (by decide)
  refine ⟨⟨zCl_cg (fun a ha => h1 a (by omega) (by omega)) hc, ?_⟩, ⟨by rw [h1 0 (by decide) (by decide), k3, z9 2 (by decide) (by decide)], by rw [h1 0 (by decide) (by decide), k4, h3.1], by rw [h1 0 (by decide) (by decide), k5, h3.2]⟩, ⟨by rw [z182, z9 4 (by decide) (by decide)], by rw [z182]; decide⟩, ⟨[], by decide, ⟨by rw [z182]; rfl, fun i _ hi => absurd hi (Nat.not_lt_zero _)⟩, ⟨by rw [z9 49 (by decide) (by decide)]; rfl, fun i _ hi => absurd hi (Nat.not_lt_zero _)⟩⟩, ⟨by rw [z177, z9 11 (by decide) (by decide)], by rw [z177]; decide, ?_, ?_⟩, ⟨by rw [z95, z9 1 (by decide) (by decide)], fun i i1 i2 => absurd i2 (by rw [z95]; show ¬ i ≤ (0 : Int).toNat; simp only [Int.toNat_zero]; omega)⟩, h4⟩
  · have s0 : zSv τ 1 0 = fun _ => 0 := z1
    have n0 : zN (zSv τ 1) = 0 := by unfold zN; rw [s0]; rfl
    refine ⟨⟨?_, ?_⟩, fun k hk => absurd hk (by rw [n0]; exact Nat.not_lt_zero _), fun k hk => absurd hk (by rw [n0]; exact Nat.not_lt_zero _), fun i hi => absurd hi (by rw [s0]; exact Nat.not_lt_zero _)⟩
    · show τ 190 0 = _; rw [z190, s0]
    · show τ 190 (0 + 1) = _; rw [z190, s0]
  · rw [z 178 (by omega) (by decide) (by decide)]
    exact fun j _ => by dsimp only; decide
  · rw [z 178 (by omega) (by decide) (by decide), z 196 (by omega) (by decide) (by decide)]
    exact fun j _ => by dsimp only; decide
end INV3
