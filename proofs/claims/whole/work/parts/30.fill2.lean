/-- what is asked before a moment p is filled -/
def zPreF (σ : zSt) (p : Nat) (t : Int) : Prop := (zGood σ 1 ∧ zMr σ p ∧ (∀ j, j < 6 → zMr σ (45 + 8 * j))) ∧ (∀ i, i < (σ 1 8).toNat → 0 ≤ σ 43 i ∧ σ 43 i < 6) ∧ (∀ k, k < (σ 1 0).toNat → zKk σ k) ∧ (34 ≤ p ∧ (p + 8 ≤ 43 ∨ 45 ≤ p)) ∧ (∀ i, i < 6 → p + 8 ≤ 45 + 8 * i ∨ 45 + 8 * i + 8 ≤ p ∨ (p = 45 + 8 * i ∧ σ 10 i = t)) ∧ (0 ≤ t ∧ t ≤ 1999) ∧ (σ 33 6 = (zcnt (fun j => decide (σ 2 j = 0)) (σ 1 0).toNat : Int) ∧ zStand (zSv σ 1) (σ 44) (zcnt (fun j => decide (σ 2 j = 0)) (σ 1 0).toNat))
/-- a moment that is filled -/
def zFilled (σ : zSt) (p : Nat) : Prop := (∀ k, k < (σ 1 0).toNat → zMq σ p k) ∧ (∀ i, i < (σ 33 6).toNat → σ (p + 7) (σ 44 i).toNat = zlt (σ (p + 6)) (σ 44) i * σ (p + 6) (σ 44 i).toNat / 100) ∧ (∀ k, k < (σ 1 0).toNat → σ 2 k ≠ 0 → σ (p + 7) k = 0) ∧ σ p 1 = zlt (σ (p + 6)) (σ 44) (σ 33 6).toNat
def zFillP (σ σ' : zSt) (p : Nat) (t : Int) : Prop := (∀ a, (a < p ∨ p + 8 ≤ a) → σ' a = σ a) ∧ σ' p 0 = t ∧ zMr σ' p ∧ zFilled σ' p
/-- filled up to clip i -/
def zFi (σ τ : zSt) (p : Nat) (t : Int) (i : Nat) : Prop := (∀ a, (a < p ∨ p + 8 ≤ a) → τ a = σ a) ∧ τ p 0 = t ∧ zMr τ p ∧ (∀ k, k < i → zMq τ p k ∧ τ (p + 7) k = 0)
section FI
variable {σ τ : zSt} {p i : Nat} {t : Int}
theorem zFi.low (h : zFi σ τ p t i) (hp : 34 ≤ p) {a : Nat} (ha : a < 34) : τ a = σ a := h.1 a (by omega)
theorem zFi.good (h : zFi σ τ p t i) (hp : 34 ≤ p) (hg : zGood σ 1) : zGood τ 1 := zGood_eq (fun r hr => h.low hp (by omega)) hg
theorem zFi.rA (h : zFi σ τ p t i) (hs : ∀ i, i < 6 → p + 8 ≤ 45 + 8 * i ∨ 45 + 8 * i + 8 ≤ p ∨ (p = 45 + 8 * i ∧ σ 10 i = t)) (rA : ∀ j, j < 6 → zMr σ (45 + 8 * j)) : ∀ j, j < 6 → zMr τ (45 + 8 * j) := fun j hj => by
  rcases hs j hj with z | z | z
  · have := rA j hj
    unfold zMr at *
    rw [h.1 (45 + 8 * j) (by omega), h.1 (45 + 8 * j + 1) (by omega), h.1 (45 + 8 * j + 2) (by omega), h.1 (45 + 8 * j + 3) (by omega), h.1 (45 + 8 * j + 4) (by omega), h.1 (45 + 8 * j + 5) (by omega), h.1 (45 + 8 * j + 6) (by omega), h.1 (45 + 8 * j + 7) (by omega)]
    exact this
  · have := rA j hj
    unfold zMr at *
    rw [h.1 (45 + 8 * j) (by omega), h.1 (45 + 8 * j + 1) (by omega), h.1 (45 + 8 * j + 2) (by omega), h.1 (45 + 8 * j + 3) (by omega), h.1 (45 + 8 * j + 4) (by omega), h.1 (45 + 8 * j + 5) (by omega), h.1 (45 + 8 * j + 6) (by omega), h.1 (45 + 8 * j + 7) (by omega)]
    exact this
  · rw [← z.1]; exact h.2.2.1
theorem zAt_rA {σ1 : zSt} {k : Nat} (h : zAt τ σ1 p k) (r1 : zMr σ1 p) (hs : ∀ i, i < 6 → p + 8 ≤ 45 + 8 * i ∨ 45 + 8 * i + 8 ≤ p ∨ (p = 45 + 8 * i ∧ σ 10 i = t)) (rA : ∀ j, j < 6 → zMr τ (45 + 8 * j)) : ∀ j, j < 6 → zMr σ1 (45 + 8 * j) := fun j hj => by
  rcases hs j hj with z | z | z
  · have := rA j hj
    unfold zMr at *
    rw [h.1 (45 + 8 * j) (by omega), h.1 (45 + 8 * j + 1) (by omega), h.1 (45 + 8 * j + 2) (by omega), h.1 (45 + 8 * j + 3) (by omega), h.1 (45 + 8 * j + 4) (by omega), h.1 (45 + 8 * j + 5) (by omega), h.1 (45 + 8 * j + 6) (by omega), h.1 (45 + 8 * j + 7) (by omega)]
    exact this
  · have := rA j hj
    unfold zMr at *
    rw [h.1 (45 + 8 * j) (by omega), h.1 (45 + 8 * j + 1) (by omega), h.1 (45 + 8 * j + 2) (by omega), h.1 (45 + 8 * j + 3) (by omega), h.1 (45 + 8 * j + 4) (by omega), h.1 (45 + 8 * j + 5) (by omega), h.1 (45 + 8 * j + 6) (by omega), h.1 (45 + 8 * j + 7) (by omega)]
    exact this
  · rw [← z.1]; exact r1
/-- all that a step needs, and gives -/
theorem zFi_step (hP : zPreF σ p t) (h : zFi σ τ p t i) (hi : i < (σ 1 0).toNat) : zMr (zClr τ p i) p ∧ zMr (zFC (zClr τ p i) p i) p ∧ (∀ j, j < 6 → zMr (zClr τ p i) (45 + 8 * j)) ∧ zKk (zClr τ p i) i ∧ (∀ j, j < (zClr τ p i 1 8).toNat → 0 ≤ zClr τ p i 43 j ∧ zClr τ p i 43 j < 6) ∧ zGood (zClr τ p i) 1 ∧ zGood (zFC (zClr τ p i) p i) 1 ∧
    (zFC (zClr τ p i) p i (p + 1) i = 2 ∨ zFC (zClr τ p i) p i (p + 1) i = 3 → 0 ≤ zFC (zClr τ p i) p i (p + 5) i ∧ zFC (zClr τ p i) p i (p + 5) i ≤ zFC (zClr τ p i) p i 23 i) ∧ zFC (zClr τ p i) p i 23 i ≤ 1000000000 ∧ zFi σ (zStp τ p i) p t (i + 1) := by
  obtain ⟨⟨hg, rp0, rA0⟩, hor, hK, hp, hs, ht, -⟩ := hP
  have hN : (σ 1 0).toNat ≤ 12 := by have := hg.1; omega
  have hi12 : i < 12 := by omega
  have rp := h.2.2.1
  have rA := h.rA hs rA0
  have gT := h.good hp.1 hg
  have kT : zKk τ i := zKk_eq (fun a ha => h.low hp.1 ha) (hK i hi)
  have A := zClr_at τ p i
  have rc := zClr_mr rp hi12
  have rAc := zAt_rA (σ := σ) (t := t) A rc hs rA
  have kc : zKk (zClr τ p i) i := zKk_eq (fun a ha => A.1 a (by omega)) kT
  have orc : ∀ j, j < (zClr τ p i 1 8).toNat → 0 ≤ zClr τ p i 43 j ∧ zClr τ p i 43 j < 6 := by
    rw [A.1 1 (by omega), A.1 43 (by omega), h.low hp.1 (a := 1) (by decide), h.1 43 (by omega)]; exact hor
  have gc : zGood (zClr τ p i) 1 := zGood_eq (fun r hr => A.1 _ (by omega)) gT
  have B := zFC_at (zClr τ p i) p i
  have gf : zGood (zFC (zClr τ p i) p i) 1 := zGood_eq (fun r hr => B.1 _ (by omega)) gc
  obtain ⟨f1, f2, f3, f4⟩ := zFC_rows hp.1 rc rAc orc hi12 kc
  have c1 : zClr τ p i (p + 1) i = 0 := by simp [zClr, zs_app, zu_app]
  have c7 : zClr τ p i (p + 7) i = 0 := by simp [zClr, zs_app, zu_app]
  have f23 : zFC (zClr τ p i) p i 23 = zClr τ p i 23 := B.1 23 (by omega)
  have f2' : zFC (zClr τ p i) p i (p + 1) i = 2 ∨ zFC (zClr τ p i) p i (p + 1) i = 3 → 0 ≤ zFC (zClr τ p i) p i (p + 5) i ∧ zFC (zClr τ p i) p i (p + 5) i ≤ zFC (zClr τ p i) p i 23 i := fun z => by rw [f23]; exact f2 z (by rw [c1]; decide)
  have C := zStp_at τ p i
  have tr : ∀ j, j ≤ i → -1 ≤ τ 3 j ∧ τ 3 j < j := fun j hj => by rw [h.low hp.1 (a := 3) (by decide)]; exact (hK j (by omega)).1
  have hsT : ∀ i, i < 6 → p + 8 ≤ 45 + 8 * i ∨ 45 + 8 * i + 8 ≤ p ∨ (p = 45 + 8 * i ∧ τ 10 i = τ p 0) := by rw [h.low hp.1 (a := 10) (by decide), h.2.1]; exact hs
  have orT : ∀ j, j < (τ 1 8).toNat → 0 ≤ τ 43 j ∧ τ 43 j < 6 := by rw [h.low hp.1 (a := 1) (by decide), h.1 43 (by omega)]; exact hor
  have opT : ∀ j, j < (σ 1 0).toNat → τ 26 j = 0 ∨ 0 ≤ τ 3 j := fun j hj => by
    rw [h.low hp.1 (a := 26) (by decide), h.low hp.1 (a := 3) (by decide)]
    rcases (hK j hj).2.1 with z | z
    · exact Or.inl z
    · exact Or.inr z.2.1
  have mq := zStp_mq hp hsT tr orT (opT i hi)
  refine ⟨rc, f1, rAc, kc, orc, gc, gf, f2', by rw [f23]; exact kc.2.2.2.1.2, ⟨fun a ha => by rw [C.1 a (by omega)]; exact h.1 a ha, by rw [C.1 p (by omega)]; exact h.2.1, ?_, fun k hk => ?_⟩⟩
  · -- bounds
    have g3 : zFC (zClr τ p i) p i 3 = zClr τ p i 3 := B.1 3 (by omega)
    have D : zAt (zFC (zClr τ p i) p i) (zStp τ p i) p i := zAt.rf.put (by decide) (by decide)
    refine zMr_put f1 D ?_
    have fi := f1.2 i hi12
    have rr : ∀ r, r ≠ 6 → zStp τ p i (p + r) = zFC (zClr τ p i) p i (p + r) := fun r hr => zs_other (by omega)
    rw [rr 1 (by decide), rr 2 (by decide), rr 3 (by decide), rr 4 (by decide), rr 5 (by decide), rr 7 (by decide)]
    refine ⟨fi.1, fi.2.1, fi.2.2.1, fi.2.2.2.1, fi.2.2.2.2.1, ?_, fi.2.2.2.2.2.2⟩
    have r6 : zStp τ p i (p + 6) i = if zFC (zClr τ p i) p i (p + 1) i = 2 ∨ zFC (zClr τ p i) p i (p + 1) i = 3 then zStr (zFC (zClr τ p i) p i) p i else 0 := zs_eq _ _ _ _
    rw [r6]
    split
    · next z =>
      have m7 := gf.2.2.1 (9 * i + 7) (by omega)
      have m8 := gf.2.2.1 (9 * i + 8) (by omega)
      exact zStr_in hp.1 (f2' z) m7.1 m8.1 (fun j hj => (f1.2 j hj).2.2.2.2.2.1) (gf.2.1 i hi12).2.1
    · omega
  · by_cases e : k = i
    · subst e
      refine ⟨mq, ?_⟩
      show zs _ (p + 6) k _ (p + 7) k = 0
      rw [zs_other (by omega), f4, c7]
    · obtain ⟨a, b⟩ := h.2.2.2 k (by omega)
      refine ⟨zMq_ag C.ag hp hsT (fun j hj => tr j (by omega)) orT (by omega) (opT k (by omega)) a, ?_⟩
      rw [C.2 7 (by decide) (by decide) k e]; exact b
end FI
theorem zFi_end {σ τ σ1 : zSt} {p : Nat} {t : Int} (hP : zPreF σ p t) (h : zFi σ τ p t (σ 1 0).toNat) (hs : zShare τ σ1 p) : zFillP σ σ1 p t := by
  obtain ⟨⟨hg, rp0, rA0⟩, hor, hK, hp, hse, ht, hst⟩ := hP
  obtain ⟨ρ, ⟨s1, s2, s3⟩, rfl⟩ := hs
  have hN : (σ 1 0).toNat ≤ 12 := by have := hg.1; omega
  have z33 : τ 33 = σ 33 := h.low hp.1 (by decide)
  have z44 : τ 44 = σ 44 := h.1 44 (by omega)
  have z2 : τ 2 = σ 2 := h.low hp.1 (by decide)
  have z1 : τ 1 = σ 1 := h.low hp.1 (by decide)
  have zc := zcnt_le (fun j => decide (σ 2 j = 0)) (σ 1 0).toNat
  have sN : (σ 33 6).toNat = zcnt (fun j => decide (σ 2 j = 0)) (σ 1 0).toNat := by omega
  have e : ∀ a, a ≠ p → a ≠ p + 7 → zs ρ p 1 (zlt (τ (p + 6)) (τ 44) (τ 33 6).toNat) a = τ a := fun a h1 h2 => by rw [zs_other h1]; exact s1 a h2
  have e7 : zs ρ p 1 (zlt (τ (p + 6)) (τ 44) (τ 33 6).toNat) (p + 7) = ρ (p + 7) := zs_other (by omega)
  have ep : ∀ j, j ≠ 1 → zs ρ p 1 (zlt (τ (p + 6)) (τ 44) (τ 33 6).toNat) p j = τ p j := fun j hj => by rw [zs_row, zu_ne hj, s1 p (by omega)]
  have AG : zAg τ (zs ρ p 1 (zlt (τ (p + 6)) (τ 44) (τ 33 6).toNat)) p (σ 1 0).toNat := ⟨fun a ha => e a (by omega) (by omega), ep 0 (by decide), fun r h1 h2 j _ => by rw [e _ (by omega) (by omega)]⟩
  have h6 : ∀ k, k < 12 → 0 ≤ τ (p + 6) k ∧ τ (p + 6) k ≤ 100 := fun k hk => (h.2.2.1.2 k hk).2.2.2.2.2.1
  have sd : ∀ j, j < (σ 33 6).toNat → 0 ≤ τ 44 j ∧ τ 44 j < 12 := fun j hj => by
    rw [z44]
    rw [sN] at hj
    have := hst.2 j hj
    have h3 : (σ 44 j).toNat < (σ 1 0).toNat := this.2.1
    omega
  have sh : ∀ j, j < (σ 33 6).toNat → 0 ≤ zlt (τ (p + 6)) (τ 44) j * τ (p + 6) (τ 44 j).toNat / 100 ∧ zlt (τ (p + 6)) (τ 44) j * τ (p + 6) (τ 44 j).toNat / 100 ≤ 100 := fun j hj => by
    have a := zlt_in h6 j (fun q hq => sd q (by omega))
    have b := sd j hj
    have c := h6 (τ 44 j).toNat (by omega)
    have c0 : 0 ≤ zlt (τ (p + 6)) (τ 44) j * τ (p + 6) (τ 44 j).toNat := Int.mul_nonneg a.1 c.1
    have c1 : zlt (τ (p + 6)) (τ 44) j * τ (p + 6) (τ 44 j).toNat ≤ 100 * 100 := Int.mul_le_mul a.2 c.2 c.1 (by omega)
    omega
  refine ⟨fun a ha => by rw [e a (by omega) (by omega)]; exact h.1 a ha, by rw [ep 0 (by decide)]; exact h.2.1, ⟨by rw [ep 0 (by decide)]; exact h.2.2.1.1, fun k hk => ?_⟩, ⟨fun k hk => ?_, fun i hi => ?_, fun k hk hl => ?_, ?_⟩⟩
  · rw [e7, e (p + 1) (by omega) (by omega), e (p + 2) (by omega) (by omega), e (p + 3) (by omega) (by omega), e (p + 4) (by omega) (by omega), e (p + 5) (by omega) (by omega), e (p + 6) (by omega) (by omega)]
    have b := h.2.2.1.2 k hk
    refine ⟨b.1, b.2.1, b.2.2.1, b.2.2.2.1, b.2.2.2.2.1, b.2.2.2.2.2.1, ?_⟩
    by_cases q : ∃ j, j < (τ 33 6).toNat ∧ (τ 44 j).toNat = k
    · obtain ⟨j, q1, q2⟩ := q
      rw [← q2, s2 j q1]
      rw [z33] at q1
      exact sh j q1
    · rw [s3 k (fun j hj e => q ⟨j, hj, e⟩)]
      exact b.2.2.2.2.2.2
  · rw [e 1 (by omega) (by omega), z1] at hk
    have tr : ∀ j, j < (σ 1 0).toNat → -1 ≤ τ 3 j ∧ τ 3 j < j := fun j hj => by rw [h.low hp.1 (a := 3) (by decide)]; exact (hK j hj).1
    have op : τ 26 k = 0 ∨ 0 ≤ τ 3 k := by
      rw [h.low hp.1 (a := 26) (by decide), h.low hp.1 (a := 3) (by decide)]
      rcases (hK k hk).2.1 with z | z
      · exact Or.inl z
      · exact Or.inr z.2.1
    exact zMq_ag AG hp (by rw [h.low hp.1 (a := 10) (by decide), h.2.1]; exact hse) tr (by rw [z1, h.1 43 (by omega)]; exact hor) hk op (h.2.2.2 k hk).1
  · rw [e 33 (by omega) (by omega)] at hi
    rw [e7, e 44 (by omega) (by omega), e (p + 6) (by omega) (by omega)]
    exact s2 i hi
  · rw [e 1 (by omega) (by omega), z1] at hk
    rw [e 2 (by omega) (by omega), z2] at hl
    rw [e7, s3 k (fun j hj q => ?_)]
    · exact (h.2.2.2 k hk).2
    · rw [z33, sN] at hj
      have w := (hst.2 j hj).2.2.1
      rw [z44] at q
      rw [q] at w
      exact hl w
  · rw [zs_eq, e (p + 6) (by omega) (by omega), e 44 (by omega) (by omega), e 33 (by omega) (by omega)]
theorem w_Sg_fill {G : zG} {X : zX} {n : Nat} {σ : zSt} {p : Nat} {t : Int} (hn : 189 ≤ n) (hP : zMo SH p) (hF : zPreF σ p t) : ∀ (m : Nat) (i : Nat) (x3 : Int) (τ : zSt), x3 = (i : Int) → zFi σ τ p t i → i ≤ (σ 1 0).toNat → (σ 1 0).toNat < i + m → Go G X m_Sg_fill (3, 0, 0, 0, 0) n SH τ 7 [(0, vr G 33), (1, vr G p), (2, vi t), (3, vi x3)] [] (zV n SH (fun σ' => zFillP σ σ' p t)) := by
  intro m
  induction m with
  | zero => intro i x3 τ e3 ht hi hm; exact absurd hm (by omega)
  | succ m ih =>
    intro i x3 τ e3 ht hi hm
    have hp := hP.1
    obtain ⟨⟨hg, rp0, rA0⟩, hor, hK, hpp, hs, htt, hst⟩ := id hF
    have hc : 0 ≤ σ 1 0 ∧ σ 1 0 ≤ 12 := ⟨hg.1.1, hg.1.2.1⟩
    have s0 : τ 1 0 = σ 1 0 := by rw [ht.low hpp.1 (a := 1) (by decide)]
    subst e3
    refine g_iload_n (i := 3) (by decide +kernel) rfl ?_
    refine g_aload_n (i := 0) (by decide +kernel) rfl ?_
    refine g_getr f_Sg_29 (by decide +kernel) (by omega) rfl rfl ?_
    refine g_geti f_Sg_80 (by decide +kernel) (by omega) rfl rfl ?_
    refine g_icmp_ge (off := 44) (tgt := 59) (by decide +kernel) (by decide) ⟨by omega, by omega⟩ ⟨by omega, by omega⟩ (fun h15 => ?_) (fun h15 => ?_)
    · refine g_aload_n (i := 0) (by decide +kernel) rfl ?_
      refine g_aload_n (i := 1) (by decide +kernel) rfl ?_
      have en : i = (σ 1 0).toNat := by omega
      subst en
      have z33 : τ 33 = σ 33 := ht.low hpp.1 (by decide)
      have z44 : τ 44 = σ 44 := ht.1 44 (by omega)
      have zc := zcnt_le (fun j => decide (σ 2 j = 0)) (σ 1 0).toNat
      have sN : (σ 33 6).toNat = zcnt (fun j => decide (σ 2 j = 0)) (σ 1 0).toNat := by omega
      have sd : ∀ j, j < (τ 33 6).toNat → 0 ≤ τ 44 j ∧ τ 44 j < 12 := fun j hj => by
        rw [z33, sN] at hj
        rw [z44]
        have := hst.2 j hj
        have h3 : (σ 44 j).toNat < (σ 1 0).toNat := this.2.1
        omega
      refine g_cVV (st := []) (c_Sg_shareLight hn hP hpp.1 ⟨by omega, by omega⟩ (fun k hk => (ht.2.2.1.2 k hk).2.2.2.2.2.1) (by rw [z33]; omega) sd (fun a b ha hb => by rw [z33, sN] at ha hb; rw [z44]; exact hst.2.inj a b ha hb)) k_Sg_shareLight l_Sg_120 (by decide +kernel) (by omega) rfl rfl rfl rfl (Nat.le_of_ble_eq_true rfl) (by decide) ⟨by decide, by decide⟩ ?_
      rintro σ1 hsh
      refine g_retV (by decide +kernel) rfl ⟨by decide, by decide⟩ ?_
      exact zFi_end hF ht hsh
    · obtain ⟨q1, q2, q3, q4, q5, q6, q7, q8, q9, q10⟩ := zFi_step hF ht (by omega)
      obtain ⟨w1, w2, w3, w4, w5, w6, w7⟩ := id q4
      have w0 : zClr τ p i p 0 = t := by rw [(zClr_at τ p i).1 p (by omega)]; exact ht.2.1
      have q2i := q2.2 i (by omega)
      refine g_aload_n (i := 1) (by decide +kernel) rfl ?_
      refine g_iload_n (i := 3) (by decide +kernel) rfl ?_
      refine g_cVV (st := []) (c_Mo_clear (k := i) hn hP (by omega)) k_Mo_clear l_Sg_102 (by decide +kernel) (by omega) hP.a0 rfl rfl rfl (Nat.le_of_ble_eq_true rfl) (by decide) ⟨by decide, by decide⟩ ?_
      rintro σ1 hσ
      have hσ : σ1 = zClr τ p i := hσ
      subst hσ
      refine g_aload_n (i := 0) (by decide +kernel) rfl ?_
      refine g_aload_n (i := 1) (by decide +kernel) rfl ?_
      refine g_iload_n (i := 3) (by decide +kernel) rfl ?_
      refine g_cVV (st := []) (c_Sg_fillClip hn hP hpp.1 (by omega) q6 q1 q3 q5 ⟨w1.1, by omega⟩ w2 w3 w4 w5 w6 (by rw [w0]; exact htt)) k_Sg_fillClip l_Sg_106 (by decide +kernel) (by omega) rfl rfl rfl rfl (Nat.le_of_ble_eq_true rfl) (by decide) ⟨by decide, by decide⟩ ?_
      rintro σ1 hσ
      obtain rfl := hσ.symm
      refine g_aload_n (i := 1) (by decide +kernel) rfl ?_
      refine g_getr f_Sg_109 (by decide +kernel) (by omega) hP.a0 rfl ?_
      refine g_iload_n (i := 3) (by decide +kernel) rfl ?_
      refine g_aload_n (i := 1) (by decide +kernel) rfl ?_
      refine g_iload_n (i := 3) (by decide +kernel) rfl ?_
      refine g_cVI (st := [vi (i : Int), vr G (p + 6)]) (c_Mo_runs (k := i) hn hP (by omega) q2i.1) k_Mo_runs l_Sg_112 (by decide +kernel) (by omega) hP.a0 rfl rfl rfl (Nat.le_of_ble_eq_true rfl) (by decide) ⟨by decide, by decide⟩ ?_
      rintro a σ1 ⟨ea, hσ⟩
      obtain rfl := hσ.symm
      subst ea
      refine g_if_eq (off := 12) (tgt := 51) (by decide +kernel) (by decide) zbr (fun h39 => ?_) (fun h39 => ?_)
      · have h39 := zb0.mp h39
        refine g_iconst (a := 0) (by decide +kernel) ?_
        refine g_iast (j := i) (by decide +kernel) (by omega) hP.a6 rfl (by omega) (by decide) ?_
        refine g_iinc (i := 3) (b := 1) (L' := [(0, _), (1, _), (2, _), (3, _)]) (by decide +kernel) rfl rfl rfl ?_
        refine g_goto (off := -49) (tgt := 7) (by decide +kernel) (by decide) ?_
        refine g_eq (ih (i + 1) _ _ (by push_cast; rfl) q10 (by omega) (by omega)) ?_ rfl rfl
        unfold zStp
        first
          | (have hz : zFC (zClr τ p i) p i (p + 1) i = 2 ∨ zFC (zClr τ p i) p i (p + 1) i = 3 := h39
             rw [if_pos hz])
          | rw [if_neg h39]
      · have h39 := zb1.mp h39
        refine g_aload_n (i := 0) (by decide +kernel) rfl ?_
        refine g_aload_n (i := 1) (by decide +kernel) rfl ?_
        refine g_iload_n (i := 3) (by decide +kernel) rfl ?_
        refine g_cVI (st := [vi (i : Int), vr G (p + 6)]) (c_Sg_strengthOf (k := i) hn hP (by omega) (by omega) q7 (q8 h39) q9 (fun j hj => (q2.2 j hj).2.2.2.2.2.1)) k_Sg_strengthOf l_Sg_116 (by decide +kernel) (by omega) rfl rfl rfl rfl (Nat.le_of_ble_eq_true rfl) (by decide) ⟨by decide, by decide⟩ ?_
        rintro a σ1 ⟨ea, hσ⟩
        obtain rfl := hσ.symm
        subst ea
        refine g_goto (off := 4) (tgt := 52) (by decide +kernel) (by decide) ?_
        refine g_iast (j := i) (by decide +kernel) (by omega) hP.a6 rfl (by omega) (by decide) ?_
        refine g_iinc (i := 3) (b := 1) (L' := [(0, _), (1, _), (2, _), (3, _)]) (by decide +kernel) rfl rfl rfl ?_
        refine g_goto (off := -49) (tgt := 7) (by decide +kernel) (by decide) ?_
        refine g_eq (ih (i + 1) _ _ (by push_cast; rfl) q10 (by omega) (by omega)) ?_ rfl rfl
        unfold zStp
        first
          | (have hz : zFC (zClr τ p i) p i (p + 1) i = 2 ∨ zFC (zClr τ p i) p i (p + 1) i = 3 := h39
             rw [if_pos hz])
          | rw [if_neg h39]
theorem c_Sg_fill {G : zG} {n : Nat} {σ : zSt} {p : Nat} {t : Int} (hn : 189 ≤ n) (hP : zMo SH p) (hF : zPreF σ p t) : Gm G y_Sg_fill m_Sg_fill 3 0 0 [vr G 33, vr G p, vi t] n SH σ (zV n SH (fun σ' => zFillP σ σ' p t)) := by
  refine g_enter (L := [(0, _), (1, _), (2, _)]) (by decide) rfl rfl rfl (Nat.le_of_ble_eq_true rfl) (fun X => ?_)
  have hp := hP.1
  obtain ⟨⟨hg, rp0, rA0⟩, hor, hK, hpp, hs, htt, hst⟩ := id hF
  have hc : 0 ≤ σ 1 0 ∧ σ 1 0 ≤ 12 := ⟨hg.1.1, hg.1.2.1⟩
  refine g_aload_n (i := 1) (by decide +kernel) rfl ?_
  refine g_iload_n (i := 2) (by decide +kernel) rfl ?_
  refine g_puti f_Sg_43 (by decide +kernel) (by omega) hP.a0 rfl ?_
  refine g_iconst (a := 0) (by decide +kernel) ?_
  refine g_istore_n (i := 3) (L' := [(0, _), (1, _), (2, _), (3, _)]) (by decide +kernel) rfl rfl ?_
  refine w_Sg_fill hn hP hF 13 0 _ _ rfl ⟨fun a ha => zs_other (by omega), zs_eq _ _ _ _, ⟨by rw [zs_eq]; exact ⟨by omega, by omega⟩, fun k hk => ?_⟩, fun k hk => by omega⟩ (by omega) (by omega)
  rw [zs_other (by omega), zs_other (by omega), zs_other (by omega), zs_other (by omega), zs_other (by omega), zs_other (by omega), zs_other (by omega)]
  exact rp0.2 k hk
