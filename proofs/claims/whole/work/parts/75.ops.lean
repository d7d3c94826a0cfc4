/-! WHAT THE ACTS MAKE of a Show, and that it holds together -/
section OPS
variable {S T : zSt} {d r : Nat → Nat} {k : Nat} {ac si : Nat → Int}
theorem zN_cg (h0 : T 0 0 = S 0 0) : zN T = zN S := by unfold zN; rw [h0]
theorem zch_cg (h0 : T 0 0 = S 0 0) (h : ∀ r, 1 ≤ r → r ≤ 7 → T r = S r) (q p : Int) : zch T q p = zch S q p := by
  unfold zch; rw [zN_cg h0, h 2 (by decide) (by decide), h 3 (by decide) (by decide)]
theorem zEn_cg (h0 : T 0 0 = S 0 0) (h : ∀ r, 1 ≤ r → r ≤ 7 → T r = S r) (q : Nat) : ∀ p, zEn T ac q p = zEn S ac q p
  | 0 => rfl
  | p + 1 => by rw [zEn_s, zEn_s, zch_cg h0 h, zEn_cg h0 h q p, h 6 (by decide) (by decide)]
theorem zBs_cg (h : ∀ r, 1 ≤ r → r ≤ 7 → T r = S r) : ∀ f k, zBs T f k = zBs S f k
  | 0, _ => rfl
  | f + 1, k => by rw [zBs_s, zBs_s, h 4 (by decide) (by decide), h 5 (by decide) (by decide), zBs_cg h f]
theorem zBw_cg (h : ∀ r, 1 ≤ r → r ≤ 7 → T r = S r) : ∀ f k, zBw T ac f k = zBw S ac f k
  | 0, _ => rfl
  | f + 1, k => by rw [zBw_s, zBw_s, h 4 (by decide) (by decide), h 5 (by decide) (by decide), h 6 (by decide) (by decide), zBw_cg h f]
theorem zOp_cg (h : ∀ r, 1 ≤ r → r ≤ 7 → T r = S r) (k : Nat) : zOp T k = zOp S k := by unfold zOp; rw [zBs_cg h, h 4 (by decide) (by decide)]
theorem zBg_cg (h : ∀ r, 1 ≤ r → r ≤ 7 → T r = S r) (k : Nat) : zBg T ac k = zBg S ac k := by unfold zBg; rw [zBs_cg h, zBw_cg h, zOp_cg h, h 6 (by decide) (by decide)]
theorem zMx_cg (h : ∀ r, 1 ≤ r → r ≤ 7 → T r = S r) (q : Nat) : ∀ i, zMx T ac q i = zMx S ac q i
  | 0 => rfl
  | i + 1 => by rw [zMx_s, zMx_s, zMx_cg h q i, h 2 (by decide) (by decide), zOp_cg h, zBg_cg h]
theorem zLay_cg (h0 : T 0 0 = S 0 0) (h : ∀ r, 1 ≤ r → r ≤ 7 → T r = S r) : zLay T si ac ↔ zLay S si ac := by
  have e : ∀ k, zSi T ac k = zSi S ac k := fun k => by unfold zSi; rw [h 7 (by decide) (by decide), h 1 (by decide) (by decide), zEn_cg h0 h, zN_cg h0, zMx_cg h]
  have a : ∀ x k, zAc T x k = zAc S x k := fun x k => by unfold zAc zAcW; rw [h 7 (by decide) (by decide)]
  unfold zLay
  rw [zN_cg h0]
  constructor
  · intro y k hk; rw [← e, ← a]; exact y k hk
  · intro y k hk; rw [e, a]; exact y k hk
theorem zlast_cg (h0 : T 0 0 = S 0 0) (h : ∀ r, 1 ≤ r → r ≤ 7 → T r = S r) : zlast T = zlast S := by
  have : (fun p : (Nat → Int) × (Nat → Int) => zLay T p.1 p.2) = (fun p => zLay S p.1 p.2) := by
    funext p
    exact propext (zLay_cg h0 h)
  unfold zlast zsa
  rw [this, h0, h 6 (by decide) (by decide)]
theorem zVal_cg (hv : zVal S d r) (h0 : T 0 0 = S 0 0) (h : ∀ r, 1 ≤ r → r ≤ 5 → T r = S r) (hm : ∀ k, k < zN S → zMk T k) : zVal T d r := by
  have e1 := h 1 (by decide) (by decide)
  have e2 := h 2 (by decide) (by decide)
  have e3 := h 3 (by decide) (by decide)
  have e4 := h 4 (by decide) (by decide)
  have e5 := h 5 (by decide) (by decide)
  have ec : ∀ q p, zch T q p = zch S q p := fun q p => by unfold zch; rw [zN_cg h0, e2, e3]
  obtain ⟨⟨v1, v2⟩, v3, v4, v5, v6, v7⟩ := hv
  unfold zVal zDp zPar
  rw [zN_cg h0, e1, e2, e3, e4, e5]
  refine ⟨⟨v1, v2⟩, v3, fun k hk => ⟨hm k hk, (v4 k hk).2⟩, v5, fun k hk => ?_, fun q p p' hp => ?_⟩
  · rw [ec]; exact v6 k hk
  · rw [ec, ec]; exact v7 q p p' hp
/-! a mark -/
def zmr (w : Nat) (v : Int) : Prop := zTab 0 w ≤ v ∧ v ≤ zTab 1 w
theorem zmr_k {w : Nat} {v : Int} (hw : w < 9) (h : zmr w v) : (0 ≤ v ∧ v ≤ 999) ∧ (w = 1 → 1 ≤ v ∧ v ≤ 4) ∧ (w = 2 → 1 ≤ v ∧ v ≤ 9) ∧ (w = 6 → v ≤ 9) := by
  obtain ⟨h1, h2⟩ := h
  rcases (by omega : w = 0 ∨ w = 1 ∨ w = 2 ∨ w = 3 ∨ w = 4 ∨ w = 5 ∨ w = 6 ∨ w = 7 ∨ w = 8) with rfl | rfl | rfl | rfl | rfl | rfl | rfl | rfl | rfl
  · have h1 : 0 ≤ v := h1; have h2 : v ≤ 999 := h2; omega
  · have h1 : 1 ≤ v := h1; have h2 : v ≤ 4 := h2; omega
  · have h1 : 1 ≤ v := h1; have h2 : v ≤ 9 := h2; omega
  · have h1 : 0 ≤ v := h1; have h2 : v ≤ 999 := h2; omega
  · have h1 : 0 ≤ v := h1; have h2 : v ≤ 1 := h2; omega
  · have h1 : 0 ≤ v := h1; have h2 : v ≤ 1 := h2; omega
  · have h1 : 0 ≤ v := h1; have h2 : v ≤ 9 := h2; omega
  · have h1 : 0 ≤ v := h1; have h2 : v ≤ 20 := h2; omega
  · have h1 : 0 ≤ v := h1; have h2 : v ≤ 20 := h2; omega
def zOpM (S : zSt) (c w : Nat) (v : Int) : zSt := zs S 7 (9 * c + w) v
theorem zOpM_7 (S : zSt) (c w : Nat) (v : Int) {k u : Nat} (hw : w < 9) (hu : u < 9) : zOpM S c w v 7 (9 * k + u) = if k = c ∧ u = w then v else S 7 (9 * k + u) := by
  unfold zOpM
  by_cases z : k = c ∧ u = w
  · rw [if_pos z, z.1, z.2, zs_eq]
  · rw [if_neg z, zs_ne (fun y => z (by omega))]
theorem zOpM_fin (hF : zFin S) {c w : Nat} {v : Int} (hc : c < zN S) (hw : w < 9) (hv : zmr w v) : zFin (zOpM S c w v) := by
  have m := zmr_k hw hv
  have o : ∀ r, r ≠ 7 → zOpM S c w v r = S r := fun r hr => zs_other hr
  have n0 : zOpM S c w v 0 0 = S 0 0 := by rw [o 0 (by decide)]
  have q := fun (k u : Nat) (hu : u < 9) => zOpM_7 S c w v (k := k) hw hu
  obtain ⟨⟨g1, g2, g3, g4⟩, ⟨⟨d, r, hv⟩, t⟩, hl⟩ := hF
  refine ⟨⟨?_, ?_, fun k hk => ?_, ?_⟩, ⟨⟨d, r, zVal_cg hv n0 (fun r _ _ => o r (by omega)) (fun k hk => ?_)⟩, ?_⟩, fun k hk => ?_⟩
  · rw [o 0 (by decide)]; exact g1
  · intro k hk
    rw [o _ (by decide), o _ (by decide), o _ (by decide), o _ (by decide), o _ (by decide), o _ (by decide)]; exact g2 k hk
  · show 0 ≤ zs S 7 (9 * c + w) v 7 k ∧ zs S 7 (9 * c + w) v 7 k ≤ 999
    by_cases z : k = 9 * c + w
    · rw [z, zs_eq]; exact m.1
    · rw [zs_ne (fun y => z y.2)]; exact g3 k hk
  · intro i hi
    rw [o _ (by decide), o _ (by decide)]; exact g4 i hi
  · have b := (hv.2.2.1 k hk).1
    unfold zMk at *
    have q0 := q k 0 (by decide)
    have q1 := q k 1 (by decide)
    have q2 := q k 2 (by decide)
    have q3 := q k 3 (by decide)
    rw [Nat.add_zero] at q0
    rw [q0, q1, q2, q3, o 6 (by decide)]
    refine ⟨?_, ?_, ?_, ?_, b.2.2.2.2⟩
    · split <;> omega
    · split <;> omega
    · split <;> omega
    · split <;> omega
  · rw [o 0 (by decide), o 9 (by decide)]; exact t
  · rw [zN_cg n0] at hk
    have b := hl k hk
    rw [q k 6 (by decide), o 4 (by decide), o 5 (by decide)]
    refine ⟨?_, b.2⟩
    split <;> omega
/-! presses -/
theorem zPr_fin (hF : zFin S) (h0 : T 0 0 = S 0 0) (h : ∀ r, 1 ≤ r → r ≤ 7 → T r = S r) (hp : 0 ≤ T 0 8 ∧ T 0 8 ≤ 6) (h4 : ∀ i, i < 6 → (0 ≤ T 8 i ∧ T 8 i ≤ 3) ∧ (0 ≤ T 9 i ∧ T 9 i ≤ 1999)) : zFin T := by
  obtain ⟨⟨g1, g2, g3, g4⟩, ⟨⟨d, r, hv⟩, t⟩, hl⟩ := hF
  have h' : ∀ r, 1 ≤ r → r ≤ 7 → T (0 + r) = S (0 + r) := fun r a b => by rw [Nat.zero_add]; exact h r a b
  refine ⟨⟨by omega, fun k hk => ?_, fun k hk => ?_, h4⟩, ⟨⟨d, r, zVal_cg hv h0 (fun r a b => h r a (by omega)) (fun k hk => ?_)⟩, hp.1, fun i hi => (h4 i (by omega)).2⟩, fun k hk => ?_⟩
  · rw [h' 1 (by decide) (by decide), h' 2 (by decide) (by decide), h' 3 (by decide) (by decide), h' 4 (by decide) (by decide), h' 5 (by decide) (by decide), h' 6 (by decide) (by decide)]; exact g2 k hk
  · rw [h' 7 (by decide) (by decide)]; exact g3 k hk
  · have b := (hv.2.2.1 k hk).1
    unfold zMk at *
    rw [h 7 (by decide) (by decide), h 6 (by decide) (by decide)]; exact b
  · rw [zN_cg h0] at hk
    rw [h 7 (by decide) (by decide), h 4 (by decide) (by decide), h 5 (by decide) (by decide)]; exact hl k hk
def zOpP (S : zSt) (x y : Int) : zSt := zs (zs (zs S 8 (S 0 8).toNat x) 9 (S 0 8).toNat y) 0 8 (S 0 8 + 1)
theorem zOpP_fin (hF : zFin S) {x y : Int} (hP : S 0 8 < 6) (hx : 0 ≤ x ∧ x ≤ 3) (hy : 0 ≤ y ∧ y ≤ 1999) : zFin (zOpP S x y) ∧ zlast (zOpP S x y) = zlast S := by
  have o : ∀ r, 1 ≤ r → r ≤ 7 → zOpP S x y r = S r := fun r a b => by unfold zOpP; rw [zs_other (by omega), zs_other (by omega), zs_other (by omega)]
  have n0 : zOpP S x y 0 0 = S 0 0 := by unfold zOpP; rw [zs_ne (by decide), zs_other (by decide), zs_other (by decide)]
  have g1 := hF.1.1
  have n8 : zOpP S x y 0 8 = S 0 8 + 1 := by unfold zOpP; rw [zs_eq]
  refine ⟨zPr_fin hF n0 o (by omega) (fun i hi => ?_), zlast_cg n0 o⟩
  have b := hF.1.2.2.2 i hi
  have r8 : zOpP S x y 8 = zu (S 8) (S 0 8).toNat x := by unfold zOpP; rw [zs_other (by decide), zs_other (by decide), zs_row]
  have r9 : zOpP S x y 9 = zu (S 9) (S 0 8).toNat y := by unfold zOpP; rw [zs_other (by decide), zs_row, zs_other (by decide)]
  rw [r8, r9]
  unfold zu
  split
  · exact ⟨hx, hy⟩
  · exact b
theorem zOpU_fin (hF : zFin S) {i : Nat} (hi : (i : Int) < S 0 8) (h : zDropP S T 0 i) : zFin T ∧ zlast T = zlast S := by
  obtain ⟨h1, h2, h3, h4, h5⟩ := h
  have g1 := hF.1.1
  have n0 : T 0 0 = S 0 0 := by rw [h1, zu_ne (by decide)]
  have n8 : T 0 8 = S 0 8 - 1 := by rw [h1, zu_eq]
  have o : ∀ r, 1 ≤ r → r ≤ 7 → T r = S r := fun r a b => h5 r (by omega) (by omega) (by omega)
  refine ⟨zPr_fin hF n0 o (by omega) (fun j hj => ?_), zlast_cg n0 o⟩
  have b := hF.1.2.2.2
  by_cases z1 : j < i
  · rw [(h2 j z1).1, (h2 j z1).2]; exact b j hj
  · by_cases z2 : (j : Int) < S 0 8 - 1
    · rw [(h3 j (by omega) z2).1, (h3 j (by omega) z2).2]; exact b (j + 1) (by omega)
    · rw [(h4 j (by omega)).1, (h4 j (by omega)).2]; exact b j hj
end OPS
