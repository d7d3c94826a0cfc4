/-! rows of the law -/
/-- the script: it lies outside what is ours, a step's six words lie within it -/
def zSc (G : zG) (X : zX) (b Ln : Nat) (xs : Nat → Int32) (i : Nat) : Prop := va_X b Ln xs X.2.2.1 X.2.2.1.heap ∧ b < X.2.2.1.heap.size ∧ ¬ zA G b ∧ i + 6 ≤ Ln ∧ Ln ≤ 3072
section LW
variable {G : zG} {X : zX} {nm : String} {b Ln i : Nat} {xs : Nat → Int32} {σ : zSt} {pc : Nat} {st : List Value} {post : zPost}
theorem g_arg {k : Nat} (hs : zSc G X b Ln xs i) (hk : k < 6) (d : decode code pc = .ok (.aload_n 0, 1) ∧ decode code (pc + 1) = .ok (.iload_n 3, 1) ∧ decode code (pc + 2) = .ok (.iconst (k : Int), 1) ∧ decode code (pc + 3) = .ok (.iadd, 1) ∧ decode code (pc + 4) = .ok (.iaload, 1)) (kk : Go G X (zLw nm) zKL 220 SH σ (pc + 5) (zLL G b i) (vi (xs (i + k)).toInt :: st) post) : Go G X (zLw nm) zKL 220 SH σ pc (zLL G b i) st post := by
  obtain ⟨d0, d1, d2, d3, d4⟩ := d
  obtain ⟨h1, h2, h3, h4, h5⟩ := hs
  refine g_aload_n (i := 0) d0 rfl ?_
  refine g_iload_n (i := 3) d1 rfl ?_
  refine g_iconst d2 ?_
  refine g_iadd d3 ?_
  exact g_sld (j := i + k) h1 h2 h3 d4 (by omega) (by omega) h5 kk
theorem g_l1 (d : decode code pc = .ok (.aload_n 1, 1)) (kk : Go G X (zLw nm) zKL 220 SH σ (pc + 1) (zLL G b i) (vr G 0 :: st) post) : Go G X (zLw nm) zKL 220 SH σ pc (zLL G b i) st post := g_aload_n (i := 1) d rfl kk
theorem g_l2 (d : decode code pc = .ok (.aload_n 2, 1)) (kk : Go G X (zLw nm) zKL 220 SH σ (pc + 1) (zLL G b i) (vr G 189 :: st) post) : Go G X (zLw nm) zKL 220 SH σ pc (zLL G b i) st post := g_aload_n (i := 2) d rfl kk
theorem g_lC {y : MethodName} {M' : zM} {d na x : Nat} {As : List Value} {Q : Int → zSt → Prop} {st0 : List Value} (hm : Gm G y M' d 0 0 (vr G 0 :: As) 220 SH σ (zI 220 SH Q)) (hy : zCalV y M' na) (hl : Cond.methodLink "NestedClipsLaw" x y ∈ zT) (hd : decode code pc = .ok (.invokevirtual x, 3)) (hc : y.cls = "NestedClips") (hn : As.length = na) (hst : st0 = As.reverse ++ [vr G 0]) (hR : d + 1 ≤ 30)
    (kk : ∀ (a : Int) (τ : zSt), Q a τ → Go G X (zLw nm) zKL 220 SH τ (pc + 3) (zLL G b i) [vi a] post) : Go G X (zLw nm) zKL 220 SH σ pc (zLL G b i) st0 post :=
  g_cVI (st := []) hm hy hl hd (by omega) rfl (by rw [hc]; rfl) hn hst (by decide) hR ⟨by decide, by decide⟩ kk
theorem g_lM {y : MethodName} {M' : zM} {d na x : Nat} {As : List Value} {Q : Int → zSt → Prop} {st0 : List Value} {v : Int} (hm : Gm G y M' d 0 0 (vr G 189 :: As) 220 SH σ (zI 220 SH Q)) (hy : zCalV y M' na) (hl : Cond.methodLink "NestedClipsLaw" x y ∈ zT) (hd : decode code pc = .ok (.invokevirtual x, 3)) (hc : y.cls = "NestedClipsModel") (hn : As.length = na) (hst : st0 = As.reverse ++ [vr G 189, vi v]) (hR : d + 1 ≤ 30)
    (kk : ∀ (a : Int) (τ : zSt), Q a τ → Go G X (zLw nm) zKL 220 SH τ (pc + 3) (zLL G b i) [vi a, vi v] post) : Go G X (zLw nm) zKL 220 SH σ pc (zLL G b i) st0 post :=
  g_cVI (st := [vi v]) hm hy hl hd (by omega) rfl (by rw [hc]; rfl) hn hst (Nat.le_of_ble_eq_true rfl) hR ⟨by decide, by decide⟩ kk
theorem g_lE {a a' off : Int} (hd : decode code pc = .ok (.if_icmp .eq off, 3)) (ht : (pc : Int) + off = 1606) (e : a = a') (kt : Go G X (zLw nm) zKL 220 SH σ 1606 (zLL G b i) [] post) : Go G X (zLw nm) zKL 220 SH σ pc (zLL G b i) [vi a', vi a] post := g_same hd ht e kt
end LW
/-! what the sides' calls leave -/
section LO
variable {σ τ : zSt} {a : Int}
theorem zInv.th (h : zInv σ) : zInv (zs σ 189 3 0) := by
  have o : ∀ q, q ≠ 189 → zs σ 189 3 0 q = σ q := fun q hq => zs_other hq
  refine h.mv (fun q hq => o q (by omega)) (fun j hj => zs_ne (by omega)) ⟨by rw [o 0 (by decide)], by rw [o 0 (by decide)]⟩ ?_ (zCl_cg (fun q hq => o q (by omega)) h.cl)
  rw [o 0 (by decide), zs_ne (by omega)]
  exact h.2.1.1
theorem zFd_o {x b c d e : Int} (hq : (580 < σ 177 1 ∧ x = -1 ∧ τ = σ) ∨ (σ 177 1 ≤ 580 ∧ x = σ 177 1 + 20 ∧ ∃ t1 t2 t3 t4, zTape σ t1 a 4 ∧ zTape t1 t2 b 4 ∧ zTape t2 t3 c 4 ∧ zTape t3 t4 d 4 ∧ zTape t4 τ e 4)) : ∀ q, 189 ≤ q → τ q = σ q := by
  intro q h
  rcases hq with ⟨_, _, e⟩ | ⟨_, _, t1, t2, t3, t4, h1, h2, h3, h4, h5⟩
  · rw [e]
  · rw [h5.o q (by omega) (by omega), h4.o q (by omega) (by omega), h3.o q (by omega) (by omega), h2.o q (by omega) (by omega), h1.o q (by omega) (by omega)]
theorem zUd_o (hq : (σ 95 2 = 0 ∧ a = -1 ∧ zCr σ τ 8) ∨ (σ 95 2 ≠ 0 ∧ a = σ 95 2 - 1 ∧ zUnd σ τ)) : ∀ q, 189 ≤ q → τ q = σ q := by
  intro q h
  rcases hq with ⟨_, _, e⟩ | ⟨_, _, e⟩
  · exact e.2.2.1 q (by omega) (by omega)
  · exact e.2.2.1 q (by omega)
theorem zSk_o {t v : Int} (hq : (¬ (0 ≤ t ∧ t ≤ 1999) ∧ zRes σ τ a 1 0) ∨ ((0 ≤ t ∧ t ≤ 1999) ∧ zRes (zs σ 182 0 t) τ a 0 v)) : ∀ q, 189 ≤ q → τ q = σ q := by
  intro q h
  rcases hq with ⟨_, e⟩ | ⟨_, e⟩
  · exact e.o q h
  · rw [e.o q h, zs_other (by omega)]
theorem zPl_o {u : Int} (hq : (¬ (1 ≤ u ∧ u ≤ 200 ∧ σ 182 0 + u ≤ 1999) ∧ zRes σ τ a 1 0) ∨ ((1 ≤ u ∧ u ≤ 200 ∧ σ 182 0 + u ≤ 1999) ∧ ∃ ρ, zGo σ ρ u.toNat ∧ τ = zs ρ 0 10 0 ∧ a = ((zlog (zSv σ 1) (σ 182 0) u.toNat).length : Int))) : ∀ q, 189 ≤ q → τ q = σ q := by
  intro q h
  rcases hq with ⟨_, e⟩ | ⟨_, ρ, e1, e2, _⟩
  · exact e.o q h
  · rw [e2, zs_other (by omega), e1.1 q (by omega)]
end LO
theorem zwp_3 {S : zSt} {x : Nat → Int} {c i w : Int} : (if i < 0 ∨ w < 0 ∨ 3 < w then (1 : Int) else if ¬ (0 ≤ c ∧ c < S 0 0) then 2 else if (zMa (zplay S c.toNat) 1 x 2000).1 ≤ i then 8 else 0) = zwp S x (if 0 ≤ w ∧ w ≤ 3 then (1 : Int) else 0) c i := by
  unfold zwp zwq
  by_cases h1 : i < 0 ∨ w < 0 ∨ 3 < w
  · have e : (if 0 ≤ w ∧ w ≤ 3 then (1 : Int) else 0) = 0 ∨ i < 0 := by
      by_cases q : i < 0
      · exact Or.inr q
      · exact Or.inl (if_neg (by omega))
    rw [if_pos h1, if_pos e]; rfl
  · have e : ¬ ((if 0 ≤ w ∧ w ≤ 3 then (1 : Int) else 0) = 0 ∨ i < 0) := by
      rw [if_pos (by omega)]; omega
    rw [if_neg h1, if_neg e]
    by_cases h2 : ¬ (0 ≤ c ∧ c < S 0 0)
    · rw [if_pos h2, if_pos h2]; rfl
    · rw [if_neg h2, if_neg h2]; rfl
theorem zwp_r {S : zSt} {x : Nat → Int} {c i w : Int} {P : Prop} [Decidable P] : (if i < 0 ∨ w < 0 then (1 : Int) else if ¬ (0 ≤ c ∧ c < S 0 0) then 2 else if (zMa (zplay S c.toNat) 1 x 2000).1 ≤ i ∨ P then 8 else 0) = (if zwp S x (if 0 ≤ w then (1 : Int) else 0) c i ≠ 0 then zwp S x (if 0 ≤ w then (1 : Int) else 0) c i else if P then 8 else 0) := by
  unfold zwp zwq
  by_cases h1 : i < 0 ∨ w < 0
  · have e : (if 0 ≤ w then (1 : Int) else 0) = 0 ∨ i < 0 := by
      by_cases q : i < 0
      · exact Or.inr q
      · exact Or.inl (if_neg (by omega))
    rw [if_pos h1, if_pos e]; rfl
  · have e : ¬ ((if 0 ≤ w then (1 : Int) else 0) = 0 ∨ i < 0) := by
      rw [if_pos (by omega)]; omega
    rw [if_neg h1, if_neg e]
    by_cases h2 : ¬ (0 ≤ c ∧ c < S 0 0)
    · rw [if_pos h2, if_pos h2]; rfl
    · rw [if_neg h2, if_neg h2]
      by_cases h3 : (zMa (zplay S c.toNat) 1 x 2000).1 ≤ i
      · rw [if_pos (Or.inl h3), if_pos h3]; rfl
      · rw [if_neg h3]
        by_cases h4 : P
        · rw [if_pos (Or.inr h4), if_pos h4]; rfl
        · rw [if_neg (by intro q; rcases q with q | q; exact h3 q; exact h4 q), if_neg h4]; rfl
