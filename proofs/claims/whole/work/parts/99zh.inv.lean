/-! THE TWO SIDES TOGETHER -/
/-- where the class keeps the i-th last Show -/
def zKpt (σ : zSt) (i : Nat) : Nat := 97 + 10 * ((σ 95 1 - (i : Int)) % 8).toNat
/-- class and reference say the same -/
def zInv (σ : zSt) : Prop := (zCl σ ∧ zEqv (zSv σ 1) (zMw (σ 190) 0)) ∧ (σ 0 10 = σ 189 2 ∧ σ 0 11 = σ 189 12 ∧ σ 0 12 = σ 189 13) ∧ (σ 182 0 = σ 189 4 ∧ 0 ≤ σ 182 0 ∧ σ 182 0 ≤ 1999) ∧ (∃ E : List zE4, E.length ≤ 5000 ∧ zRp σ E ∧ zRq σ E) ∧ (σ 177 1 = σ 189 11 ∧ (0 ≤ σ 177 1 ∧ σ 177 1 ≤ 600) ∧ zBt (σ 178) ∧ zBm (σ 178) (σ 196)) ∧ (σ 95 2 = σ 189 1 ∧ ∀ i, 1 ≤ i → i ≤ (σ 95 2).toNat → zFine (zSv σ (zKpt σ i)) ∧ zEqv (zSv σ (zKpt σ i)) (zMw (σ 190) (194 * ((σ 189 1).toNat + 1 - i)))) ∧ ∀ k, k < 16 → σ 197 k = zke.getD k 0
theorem zKpt_r (σ : zSt) (i : Nat) : 97 ≤ zKpt σ i ∧ zKpt σ i ≤ 167 := by unfold zKpt; omega
theorem zSv_eqv {σ τ : zSt} {b c : Nat} (h : ∀ r, r < 10 → τ (c + r) = σ (b + r)) : zEqv (zSv τ c) (zSv σ b) := zEqv.of (fun r hr => (h r hr).symm)
theorem zSv_same {σ τ : zSt} {b c : Nat} (h : ∀ r, r < 10 → τ (c + r) = σ (b + r)) : zSame2 (zSv τ c) (zSv σ b) := zSame2.of (fun r hr => h r hr)
theorem zCl_cg {σ τ : zSt} (h : ∀ a, (1 ≤ a ∧ a < 177) → τ a = σ a) (hc : zCl σ) : zCl τ := by
  obtain ⟨ho, hR, hf, hD, hO, h1, h2⟩ := hc
  exact ⟨zOn_cg (fun a ha => h a (by omega)) ho, by rw [h 93 (by omega)]; exact hR, (zSv_same (fun r hr => h (1 + r) (by omega))).fine hf, zGood_eq (fun r hr => h (11 + r) (by omega)) hD, by rw [h 32 (by omega)]; exact hO, by rw [h 95 (by omega)]; exact h1, by rw [h 95 (by omega)]; exact h2⟩
section INV
variable {σ τ υ : zSt}
theorem zInv.cl (h : zInv σ) : zCl σ := h.1.1
theorem zInv.mc (h : zInv σ) (e : τ 190 = σ 190) : zMc τ (zSv σ 1) := ⟨by rw [e]; exact h.1.2, h.1.1.2.2.1.1.1, h.1.1.2.2.1.1.2.1⟩
theorem zInv.mz (h : zInv σ) : zMz (zSv σ 1) := ⟨h.1.1.2.2.1.1.2.1, fun t => h.1.1.1.is t, h.1.1.2.2.1.1.1⟩
theorem zInv.fine (h : zInv σ) : zFine (zSv σ 1) := h.1.1.2.2.1
theorem zInv.kp (h : zInv σ) : 0 ≤ σ 189 1 ∧ σ 189 1 ≤ 8 := by rw [← h.2.2.2.2.2.1.1]; exact h.1.1.2.2.2.2.2.2
/-- what does not touch what is told -/
theorem zInv.mv (h : zInv σ) (r : ∀ a, ((1 ≤ a ∧ a < 11) ∨ (95 ≤ a ∧ a < 179) ∨ (182 ≤ a ∧ a < 187) ∨ a = 190 ∨ a = 196 ∨ a = 197 ∨ 216 ≤ a) → τ a = σ a) (f : ∀ j, (j = 1 ∨ j = 4 ∨ j = 11 ∨ j = 12 ∨ j = 13 ∨ j = 49) → τ 189 j = σ 189 j) (g : τ 0 11 = σ 0 11 ∧ τ 0 12 = σ 0 12) (es : τ 0 10 = τ 189 2) (hc : zCl τ) : zInv τ := by
  obtain ⟨⟨-, h1⟩, ⟨-, h2, h3⟩, h4, ⟨E, e1, e2, e3⟩, h6, ⟨h7, h8⟩, h9⟩ := h
  have k95 : τ 95 = σ 95 := r 95 (by omega)
  have eK : ∀ i, zKpt τ i = zKpt σ i := fun i => by unfold zKpt; rw [k95]
  refine ⟨⟨hc, ?_⟩, ⟨es, by rw [g.1, f 12 (by decide)]; exact h2, by rw [g.2, f 13 (by decide)]; exact h3⟩, by rw [r 182 (by omega), f 4 (by decide)]; exact h4, ⟨E, e1, ?_, ?_⟩, by rw [r 177 (by omega), r 178 (by omega), r 196 (by omega), f 11 (by decide)]; exact h6, ⟨by rw [k95, f 1 (by decide)]; exact h7, fun i i1 i2 => ?_⟩, by rw [r 197 (by omega)]; exact h9⟩
  · rw [r 190 (by omega)]
    exact (zSv_eqv (fun q hq => r (1 + q) (by omega))).tr h1
  · unfold zRp
    rw [r 182 (by omega), r 183 (by omega), r 184 (by omega), r 185 (by omega), r 186 (by omega)]
    exact e2
  · unfold zRq
    rw [f 49 (by decide), r 216 (by omega), r 217 (by omega), r 218 (by omega), r 219 (by omega)]
    exact e3
  · rw [k95] at i2
    obtain ⟨q1, q2⟩ := h8 i i1 i2
    have kr := zKpt_r σ i
    rw [eK, r 190 (by omega), f 1 (by decide)]
    exact ⟨(zSv_same (fun q hq => r (zKpt σ i + q) (by omega))).fine q1, (zSv_eqv (fun q hq => r (zKpt σ i + q) (by omega))).tr q2⟩
/-- an asking -/
theorem zInv.ask (h : zInv σ) (hq : zQf σ τ) (hm : zMF τ υ) (es : τ 0 10 = υ 189 2) : zInv υ := by
  obtain ⟨q1, q2, q3, q4⟩ := hq
  obtain ⟨m1, m2⟩ := hm
  obtain ⟨ho, hR, hf, hD, hO, h1, h2⟩ := h.1.1
  have u : ∀ a, a < 189 → υ a = τ a := fun a ha => m1 a (by omega)
  have ct : zCl τ := ⟨q2, q3, (zSv_same (fun r hr => q1 (1 + r) (by omega) (by omega) (by omega) (by omega))).fine hf, zGood_eq (fun r hr => q1 (11 + r) (by omega) (by omega) (by omega) (by omega)) hD, by rw [q1 32 (by omega) (by omega) (by omega) (by omega)]; exact hO, by rw [q1 95 (by omega) (by omega) (by omega) (by omega)]; exact h1, by rw [q1 95 (by omega) (by omega) (by omega) (by omega)]; exact h2⟩
  refine h.mv (fun a ha => by rw [m1 a (by omega)]; exact q1 a (by omega) (by omega) (by omega) (by omega)) (fun j hj => by rw [m2 j (by omega)]; rw [q1 189 (by omega) (by omega) (by omega) (by omega)]) ⟨by rw [u 0 (by decide)]; exact q4 11 (by decide), by rw [u 0 (by decide)]; exact q4 12 (by decide)⟩ (by rw [u 0 (by decide)]; exact es) (zCl_cg (fun a ha => u a (by omega)) ct)
theorem zCr.cl {w : Int} (hc : zCl σ) (h : zCr σ τ w) : zCl τ := by
  obtain ⟨ho, hR, hf, hD, hO, h1, h2⟩ := hc
  obtain ⟨k1, k2, k3, k4, k5⟩ := h
  exact ⟨zOn_cg (fun a ha => k3 a (by omega) (by omega)) ho, by rw [k3 93 (by omega) (by omega)]; exact hR, (zSv_same (fun r hr => k3 (1 + r) (by omega) (by omega))).fine hf, k4, k5, by rw [k3 95 (by omega) (by omega)]; exact h1, by rw [k3 95 (by omega) (by omega)]; exact h2⟩
/-- an asking that tries -/
theorem zInv.try {w : Int} (h : zInv σ) (hq : zCr σ τ w) (hm : zMF τ υ) (es : υ 189 2 = w) : zInv υ := by
  obtain ⟨m1, m2⟩ := hm
  have ct := hq.cl h.1.1
  obtain ⟨k1, k2, k3, k4, k5⟩ := hq
  have u : ∀ a, a < 189 → υ a = τ a := fun a ha => m1 a (by omega)
  exact h.mv (fun a ha => by rw [m1 a (by omega)]; exact k3 a (by omega) (by omega)) (fun j hj => by rw [m2 j (by omega)]; rw [k3 189 (by omega) (by omega)]) ⟨by rw [u 0 (by decide)]; exact k2 11 (by decide), by rw [u 0 (by decide)]; exact k2 12 (by decide)⟩ (by rw [u 0 (by decide), k1, es]) (zCl_cg (fun a ha => u a (by omega)) ct)
/-- an act -/
theorem zInv.act {S' : zSt} {a a' w v : Int} (h : zInv σ) (hq : zAcC σ τ a w v S') (hm : zAcM τ υ a' w v (zSv σ 1) S') (hF : w = 0 → zFine S') : a = a' ∧ zInv υ := by
  obtain ⟨⟨f1, f2⟩, es, hm⟩ := hm
  have u : ∀ a, a < 189 → υ a = τ a := fun a ha => f1 a (by omega)
  rcases hq with ⟨hw, ea, hr⟩ | ⟨hw, ea, hd⟩
  · rcases hm with ⟨_, ea', k1, E, kb⟩ | ⟨y, _⟩
    · refine ⟨by rw [ea, ea'], ?_⟩
      have ct := hr.cl h.1.1
      obtain ⟨c1, c2, c3, c4, c5⟩ := hr
      obtain ⟨⟨-, g1⟩, ⟨-, g2, g3⟩, g4, ⟨L, e1, e2, e3⟩, g6, ⟨g7, g8⟩, g9⟩ := id h
      have uu : ∀ a, a ≠ 0 → ((1 ≤ a ∧ a < 11) ∨ (33 ≤ a ∧ a < 189) ∨ a = 196 ∨ a = 197 ∨ 216 ≤ a) → υ a = σ a := fun a h0 ha => by rw [f1 a (by omega)]; exact c3 a h0 (by omega)
      have u9 : ∀ j, (j = 4 ∨ j = 11 ∨ j = 12 ∨ j = 13 ∨ j = 49) → υ 189 j = σ 189 j := fun j hj => by rw [f2 j hj, c3 189 (by omega) (by omega)]
      have u1 : υ 189 1 = σ 189 1 := by rw [k1, c3 189 (by omega) (by omega)]
      have k95 : υ 95 = σ 95 := uu 95 (by omega) (by omega)
      refine ⟨⟨zCl_cg (fun a ha => u a (by omega)) ct, (zSv_eqv (fun q hq => uu (1 + q) (by omega) (by omega))).tr E⟩, ⟨by rw [u 0 (by decide), c1, es], by rw [u 0 (by decide), c2 11 (by decide), u9 12 (by decide)]; exact g2, by rw [u 0 (by decide), c2 12 (by decide), u9 13 (by decide)]; exact g3⟩, by rw [uu 182 (by omega) (by omega), u9 4 (by decide)]; exact g4, ⟨L, e1, ?_, ?_⟩, by rw [uu 177 (by omega) (by omega), uu 178 (by omega) (by omega), uu 196 (by omega) (by omega), u9 11 (by decide)]; exact g6, ⟨by rw [k95, u1]; exact g7, fun i i1 i2 => ?_⟩, by rw [uu 197 (by omega) (by omega)]; exact g9⟩
      · unfold zRp
        rw [uu 182 (by omega) (by omega), uu 183 (by omega) (by omega), uu 184 (by omega) (by omega), uu 185 (by omega) (by omega), uu 186 (by omega) (by omega)]
        exact e2
      · unfold zRq
        rw [u9 49 (by decide), uu 216 (by omega) (by omega), uu 217 (by omega) (by omega), uu 218 (by omega) (by omega), uu 219 (by omega) (by omega)]
        exact e3
      · rw [k95] at i2
        obtain ⟨q1, q2⟩ := g8 i i1 i2
        have kr := zKpt_r σ i
        have eK : zKpt υ i = zKpt σ i := by unfold zKpt; rw [k95]
        have k8 := h.kp
        rw [eK, u1]
        refine ⟨(zSv_same (fun q hq => uu (zKpt σ i + q) (by omega) (by omega))).fine q1, (zSv_eqv (fun q hq => uu (zKpt σ i + q) (by omega) (by omega))).tr (zMw_blk q1.1.b (c := σ 190) (o := 194 * ((σ 189 1).toNat + 1 - i)) (fun j hj => ?_) q2)⟩
        rw [g7] at i2
        rw [kb _ (by omega) (by omega), c3 190 (by omega) (by omega)]
    · exact absurd y hw
  · rcases hm with ⟨y, _⟩ | ⟨_, ea', E, k1, Eo, kb⟩
    · exact absurd hw y
    · refine ⟨by rw [ea, ea'], ?_⟩
      have FS := hF hw
      obtain ⟨d1, d2, d3, d4, d5, d6, d7, d8, d9, d10, d11⟩ := hd
      obtain ⟨⟨hcl, g1⟩, ⟨-, g2, g3⟩, g4, ⟨L, e1, e2, e3⟩, g6, ⟨g7, g8⟩, g9⟩ := id h
      obtain ⟨ho, hR, hf, hD, hO, b1, b2⟩ := hcl
      have uu : ∀ a, ((177 ≤ a ∧ a < 189) ∨ a = 196 ∨ a = 197 ∨ 216 ≤ a) → υ a = σ a := fun a ha => by rw [f1 a (by omega)]; exact d3 a (by omega)
      have u9 : ∀ j, (j = 4 ∨ j = 11 ∨ j = 12 ∨ j = 13 ∨ j = 49) → υ 189 j = σ 189 j := fun j hj => by rw [f2 j hj, d3 189 (by omega)]
      have k8 := h.kp
      have t1 : τ 189 1 = σ 189 1 := by rw [d3 189 (by omega)]
      have ct : zCl τ := ⟨d4, by rw [d3 93 (by omega)]; exact hR, d5.fine FS, d6, d7, by rw [d10]; omega, by rw [d11]; omega⟩
      have v1 : υ 95 1 = (σ 95 1 + 1) % 8 := by rw [u 95 (by decide)]; exact d10
      have v2 : υ 95 2 = min (σ 95 2 + 1) 8 := by rw [u 95 (by decide)]; exact d11
      have v3 : υ 189 1 = min (σ 189 1 + 1) 8 := by rw [k1, t1]
      refine ⟨⟨zCl_cg (fun a ha => u a (by omega)) ct, ((zSv_eqv (fun q hq => u (1 + q) (by omega))).tr ((d5.eqv FS.1.1).sym)).tr E⟩, ⟨by rw [u 0 (by decide), d1, es, hw], by rw [u 0 (by decide), d2 11 (by decide), u9 12 (by decide)]; exact g2, by rw [u 0 (by decide), d2 12 (by decide), u9 13 (by decide)]; exact g3⟩, by rw [uu 182 (by omega), u9 4 (by decide)]; exact g4, ⟨L, e1, ?_, ?_⟩, by rw [uu 177 (by omega), uu 178 (by omega), uu 196 (by omega), u9 11 (by decide)]; exact g6, ⟨by rw [v2, v3, g7], fun i i1 i2 => ?_⟩, by rw [uu 197 (by omega)]; exact g9⟩
      · unfold zRp
        rw [uu 182 (by omega), uu 183 (by omega), uu 184 (by omega), uu 185 (by omega), uu 186 (by omega)]
        exact e2
      · unfold zRq
        rw [u9 49 (by decide), uu 216 (by omega), uu 217 (by omega), uu 218 (by omega), uu 219 (by omega)]
        exact e3
      · rw [v2] at i2
        by_cases i0 : i = 1
        · have eK : zKpt υ i = 97 + 10 * (σ 95 1).toNat := by unfold zKpt; rw [v1, i0]; omega
          rw [eK, i0, Nat.add_sub_cancel]
          have q1 : zSame2 (zSv υ (97 + 10 * (σ 95 1).toNat)) (zSv σ 1) := (zSv_same (fun q hq => u _ (by omega))).tr d8
          exact ⟨q1.fine hf, ((q1.eqv hf.1.1).sym).tr Eo⟩
        · obtain ⟨q1, q2⟩ := g8 (i - 1) (by omega) (by omega)
          have kr := zKpt_r σ (i - 1)
          have eK : zKpt υ i = zKpt σ (i - 1) := by unfold zKpt; rw [v1]; omega
          have er : ∀ q, q < 10 → υ (zKpt σ (i - 1) + q) = σ (zKpt σ (i - 1) + q) := fun q hq => by
            rw [u _ (by omega)]
            have z := d9 ((σ 95 1 - ((i - 1 : Nat) : Int)) % 8).toNat (by omega) (by omega) q hq
            unfold zKpt
            exact z
          rw [eK]
          refine ⟨(zSv_same er).fine q1, (zSv_eqv er).tr (zMw_blk q1.1.b (c := σ 190) (o := 194 * ((σ 189 1).toNat + 1 - (i - 1))) (fun j hj => ?_) q2)⟩
          have z := kb (i - 1) (by omega) (by omega) j hj
          rw [show (υ 189 1).toNat + 1 - i = (υ 189 1).toNat - (i - 1) by omega, z, t1, d3 190 (by omega)]
end INV
