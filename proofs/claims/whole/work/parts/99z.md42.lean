/-! READING in the reference: a clip -/
/-- what reading a clip from A comes to -/
def zCq (b : Nat → Int) (n0 : Nat) (σ0 : zSt) (A : zAb) (σ' : zSt) : Prop := (∃ f, zPf b n0 A f ∧ zRft σ0 f σ') ∨ ∃ B K, zPt b n0 A B ∧ (B.mk = -1 ∧ B.op = A.op) ∧ zGw A B K ∧ zRr b n0 σ0 B σ'
theorem zu_sh {c : Nat → Int} {o i j : Nat} {v : Int} : zu c (o + i) v (o + j) = zu (fun x => c (o + x)) i v j := by
  by_cases e : j = i
  · rw [e, zu_eq, zu_eq]
  · rw [zu_ne e, zu_ne (by omega)]
theorem zmks_sh {c mk : Nat → Int} {o i w j : Nat} : zmks c (o + i) mk w (o + j) = zmks (fun x => c (o + x)) i mk w j := by
  unfold zmks
  by_cases e : i ≤ j ∧ j < i + w
  · rw [if_pos e, if_pos (by omega), show o + j - (o + i) = j - i by omega]
  · rw [if_neg e, if_neg (by omega)]
theorem zwc_sh {c mk : Nat → Int} {o k j : Nat} {x y p h t m : Int} : zwc c o k x y p h t m mk (o + j) = zwc (fun i => c (o + i)) 0 k x y p h t m mk j := by
  unfold zwc
  simp only [Nat.zero_add]
  have s : ∀ (f g : Nat → Int), (∀ i, f (o + i) = g i) → ∀ (a : Nat) (v : Int) (i : Nat), zu f (o + a + k) v (o + i) = zu g (a + k) v i := fun f g e a v i => by
    rw [Nat.add_assoc, zu_sh]
    congr 1
    funext q
    exact e q
  have s2 : ∀ (f g : Nat → Int), (∀ i, f (o + i) = g i) → ∀ i, zmks f (o + 38 + 9 * k) mk 9 (o + i) = zmks g (38 + 9 * k) mk 9 i := fun f g e i => by
    rw [Nat.add_assoc, zmks_sh]
    congr 1
    funext q
    exact e q
  refine s _ _ (fun i => s _ _ (fun i => s _ _ (fun i => s2 _ _ (fun i => s _ _ (fun i => s _ _ (fun i => s _ _ (fun i => rfl) _ _ _) _ _ _) _ _ _) _) _ _ _) _ _ _) _ _ _
/-- a clip is put behind those of the draft -/
theorem zApp_blk {S : zSt} {c c' : Nat → Int} {x y p : Int} (hB : zN S < 12 ∧ (S 0 8).toNat ≤ 6) (h0 : 0 ≤ S 0 0) (E : zEqv S (zMw c 1746)) (hc : ∀ j, j < 194 → c' (1746 + j) = zu (zwc c 1746 (zN S) x y p 0 (-1) 0 (zTab 0)) 1746 (S 0 0 + 1) (1746 + j)) : zEqv (zApp S 0 x y p) (zMw c' 1746) := by
  have E0 : zEqv S (zMw (fun j => c (1746 + j)) 0) := zMw_blk ⟨by omega, hB.2⟩ (fun j _ => by rw [Nat.zero_add]) E
  have E1 := zApp_eqv (c' := fun j => c' (1746 + j)) (x := x) (y := y) (p := p) (mk := zTab 0) hB h0 E0 (fun _ _ => rfl) (fun j hj => by
    show c' (1746 + j) = _
    rw [hc j hj, show (zu (zwc c 1746 (zN S) x y p 0 (-1) 0 (zTab 0)) 1746 (S 0 0 + 1) (1746 + j)) = zu (zwc c 1746 (zN S) x y p 0 (-1) 0 (zTab 0)) (1746 + 0) (S 0 0 + 1) (1746 + j) from rfl, zu_sh]
    congr 1
    funext i
    exact zwc_sh)
  have nA : zN (zApp S 0 x y p) = zN S + 1 := by unfold zN; rw [(zApp_r S x y p).1, zu_eq]; omega
  have n8 : zApp S 0 x y p 0 8 = S 0 8 := by rw [(zApp_r S x y p).1, zu_ne (by decide)]
  exact zMw_blk ⟨by omega, by rw [n8]; exact hB.2⟩ (fun j _ => by rw [Nat.zero_add]) E1
theorem zRq0.rows {b : Nat → Int} {n0 q : Nat} {σ0 σ τ : zSt} (h : zRq0 b n0 σ0 q σ) (e : ∀ a, a ≠ 190 → a ≠ 200 → τ a = σ a) (e2 : ∀ j, j < 1746 → τ 190 j = σ 190 j) (hc : 0 ≤ τ 190 1746 ∧ τ 190 1746 ≤ 12) : zRq0 b n0 σ0 q τ := by
  have e9 := e 189 (by decide) (by decide)
  refine ⟨by rw [e9]; exact h.1, by unfold zTwM; rw [e9]; exact h.2.1, hc, fun a h1 h2 h3 h4 h5 => by rw [e a h2 h5]; exact h.2.2.2.1 a h1 h2 h3 h4 h5, fun j hj => by rw [e2 j hj]; exact h.2.2.2.2.1 j hj, fun j hj => by rw [e9]; exact h.2.2.2.2.2 j hj⟩
theorem zpC_6 {b : Nat → Int} {n0 : Nat} {A : zAb} (h1 : 0 ≤ zkw b n0 A.q ∧ zkw b n0 A.q ≤ 2) (h2 : 12 ≤ A.D 0 0 ∨ 4 < zdep (A.D 2) 12 A.op) : zpC b n0 A = .inl (6, A.q) := by
  unfold zpC
  rw [if_neg (fun y => y h1), if_pos h2]
theorem zpC_g {b : Nat → Int} {n0 : Nat} {A : zAb} (h1 : 0 ≤ zkw b n0 A.q ∧ zkw b n0 A.q ≤ 2) (h2 : ¬ (12 ≤ A.D 0 0 ∨ 4 < zdep (A.D 2) 12 A.op)) : zpC b n0 A = zpN b n0 (zAm (znx b n0 A.q) (zApp A.D 0 (zkw b n0 A.q) A.op (if A.op = -1 then 0 else (zcnt (fun j => decide (A.D 2 j = A.op)) (A.D 0 0).toNat : Int))) A.nm A.sn A.td A.op A.mk) (zN A.D) := by
  unfold zpC
  rw [if_neg (fun y => y h1), if_neg h2]
  rfl
theorem zpC_n {b : Nat → Int} {n0 : Nat} {A : zAb} (h1 : ¬ (0 ≤ zkw b n0 A.q ∧ zkw b n0 A.q ≤ 2)) : zpC b n0 A = .inl (zcs b n0 A.q, A.q) := by
  unfold zpC
  rw [if_pos h1]
/-- the step at a clip whose marks are read -/
theorem zstep_K {b : Nat → Int} {n0 k : Nat} {B : zAb} (hk : B.mk = (k : Int)) (ht : zTt b n0 B.q = 2) : zstep b n0 B = zpK b n0 B k := by
  unfold zstep
  rw [if_pos (by omega), if_pos ht, hk, Int.toNat_natCast]
theorem zstep_S {b : Nat → Int} {n0 k : Nat} {B : zAb} (hk : B.mk = (k : Int)) (ht : zTt b n0 B.q ≠ 2) : zstep b n0 B = zpS b n0 B k := by
  unfold zstep
  rw [if_pos (by omega), if_neg ht, hk, Int.toNat_natCast]
/-- no mark, and not the sign: a fault -/
theorem zstep_nS {b : Nat → Int} {n0 k : Nat} {B : zAb} (hk : B.mk = (k : Int)) (hn : zkw b n0 B.q < 3) (hs : ¬ (zTt b n0 B.q = 4 ∧ zTs b n0 B.q = (if B.D 1 k = 0 then 59 else 40))) : zstep b n0 B = .inl (zcs b n0 B.q, B.q) := by
  by_cases ht : zTt b n0 B.q = 2
  · rw [zstep_K hk ht]
    unfold zpK
    rw [if_pos hn]
  · rw [zstep_S hk ht]
    unfold zpS
    rw [if_pos hs]
theorem zstep_yS {b : Nat → Int} {n0 k : Nat} {B : zAb} (hk : B.mk = (k : Int)) (hs : zTt b n0 B.q = 4 ∧ zTs b n0 B.q = (if B.D 1 k = 0 then 59 else 40)) : zstep b n0 B = .inr (zAm (znx b n0 B.q) B.D B.nm B.sn B.td (if B.D 1 k = 0 then B.op else (k : Int)) (-1)) := by
  rw [zstep_S hk (by omega)]
  unfold zpS
  rw [if_neg (fun y => y hs)]
theorem zstep_X {b : Nat → Int} {n0 : Nat} {B : zAb} (hm : B.mk = -1) (hs : zTt b n0 B.q = 4 ∧ zTs b n0 B.q = 41) : zstep b n0 B = zpX b n0 B := by
  unfold zstep
  rw [if_neg (fun y => y hm), if_pos hs]
theorem t_Md_readsClip201F {G : zG} {X : zX} {n : Nat} {σ : zSt} {σ0 : zSt} {f : Int × Nat} {Q : zSt → Prop} {fu : Nat} (hn : 220 ≤ n) (hF : zRft σ0 f σ) (hQ : Q σ) {x1 x2 x3 x4 x5 : Int} (z3 : zr x3)  : Go G X m_Md_readsClip (6 + fu, 0, 0, 0, 0) n SH σ 201 [(0, vr G 189), (1, vi x1), (2, vi x2), (3, vi x3), (4, vi x4), (5, vi x5)] [] (zV n SH (fun σ' => Q σ')) := by
  have f1 := hF.1
  have f2 := hF.2.1
  refine g_iload_n (i := 3) (by decide +kernel) rfl ?_
  refine g_iconst (a := 1) (by decide +kernel) ?_
  refine g_icmp_ne (off := 9) (tgt := 212) (by decide +kernel) (by decide) ⟨by omega, by omega⟩ ⟨by omega, by omega⟩ (fun h203 => ?_) (fun h203 => ?_)
  · refine g_aload_n (i := 0) (by decide +kernel) rfl ?_
    refine g_geti f_Md_230 (by decide +kernel) (by omega) rfl rfl ?_
    refine g_if_ne (off := 7) (tgt := 223) (by decide +kernel) (by decide) ⟨by omega, by omega⟩ (fun h216 => ?_) (fun h216 => ?_)
    · refine g_retV (by decide +kernel) rfl ⟨Nat.le_refl _, Nat.le_refl _⟩ ?_
      exact hQ
    · exact absurd h216 (by omega)
  · refine g_aload_n (i := 0) (by decide +kernel) rfl ?_
    refine g_iload (i := 4) (by decide +kernel) rfl ?_
    refine g_cVV (st := _) (c_Md_bindsF hn hF) k_Md_binds l_Md_281 (by decide +kernel) (by omega) rfl rfl rfl rfl (Nat.le_of_ble_eq_true rfl) (by omega) ⟨Nat.le_refl _, Nat.le_refl _⟩ ?_
    rintro υ hυ
    obtain rfl := hυ.symm
    refine g_aload_n (i := 0) (by decide +kernel) rfl ?_
    refine g_geti f_Md_230 (by decide +kernel) (by omega) rfl rfl ?_
    refine g_if_ne (off := 7) (tgt := 223) (by decide +kernel) (by decide) ⟨by omega, by omega⟩ (fun h216 => ?_) (fun h216 => ?_)
    · refine g_retV (by decide +kernel) rfl ⟨Nat.le_refl _, Nat.le_refl _⟩ ?_
      exact hQ
    · exact absurd h216 (by omega)
theorem t_Md_readsClip190 {G : zG} {X : zX} {n : Nat} {σ : zSt} {b : Nat → Int} {n0 : Nat} {σ0 : zSt} {A : zAb} {fu : Nat} {K x1 x2 : Int} (hn : 220 ≤ n) (h0 : zR0 b n0 σ0) (hn0 : n0 ≤ 600) (hA : zAi n0 A) (hv : zAv A) (hs : zN A.D = 0 ∨ A.op ≠ -1) (hK : 0 ≤ K ∧ K ≤ 2) {B : zAb} (hP : zPt b n0 A B) (hG : zGw A B K) (hm : B.mk = -1) (ho : B.op = (zN A.D : Int)) (hR : zRr b n0 σ0 B σ) {x5 : Int} (hk : ¬ (0 ≤ zkw b n0 B.q ∧ zkw b n0 B.q ≤ 2))  : Go G X m_Md_readsClip (6 + fu, 0, 0, 0, 0) n SH σ 190 [(0, vr G 189), (1, vi x1), (2, vi x2), (3, vi K), (4, vi (zN A.D : Int)), (5, vi x5)] [] (zV n SH (fun σ' => zCq b n0 σ0 A σ')) := by
  obtain ⟨iB, vB⟩ := hP.inv hA hv hs
  have hQ := hR.1
  have h14 := hQ.1
  have ht := hQ.2.1
  have tr := zTt_r (b := b) (n0 := n0) (q := B.q)
  have sr := zsrt_r (zTt b n0 B.q)
  have e18 := ht.2.1
  have kr := zkw_r (b := b) (n0 := n0) (q := B.q)
  have hqB := iB.1
  have hG1 := hG.1
  have N12 : zN A.D < 12 ∧ zN B.D ≤ 12 := by have := iB.2.1.1; have := hG.1; unfold zN at *; omega
  have ns : ¬ zSt0 B := fun y => by have := y.2; omega
  have gK : B.D 1 B.op.toNat = K := by rw [ho, Int.toNat_natCast]; exact hG.2.2.2.1
  have gO : B.D 2 B.op.toNat = A.op := by rw [ho, Int.toNat_natCast]; exact hG.2.2.1
  have br := zTb_r (b := b) hqB
  have fin : ∀ (C : zAb) (υ : zSt), zstep b n0 B = .inr C → (C.mk = -1 ∧ C.op = A.op) → C.D 0 = B.D 0 → C.D 1 = B.D 1 → C.D 2 = B.D 2 → zRr b n0 σ0 C υ → zCq b n0 σ0 A υ := fun C υ e1 e2 e3 e4 e5 e6 => Or.inr ⟨C, K, hP.one ns e1, e2, hG.same e3 e4 e5, e6⟩
  have flt : ∀ (f : Int × Nat) (υ : zSt), zstep b n0 B = .inl f → zRft σ0 f υ → zCq b n0 σ0 A υ := fun f υ e1 e2 => Or.inl ⟨f, Or.inr ⟨B, hP, ns, e1⟩, e2⟩
  refine g_aload_n (i := 0) (by decide +kernel) rfl ?_
  refine g_aload_n (i := 0) (by decide +kernel) rfl ?_
  refine g_bipush (a := 41) (by decide +kernel) (by decide) ?_
  refine g_cVI (st := _) (c_Md_isSign (q := B.q) hn h0 hn0 hQ (Or.inr (Or.inl rfl))) k_Md_isSign l_Md_239 (by decide +kernel) (by omega) rfl rfl rfl rfl (Nat.le_of_ble_eq_true rfl) (by omega) ⟨Nat.le_refl _, Nat.le_refl _⟩ ?_
  rintro a9 σ9 ⟨ha9, hσ9⟩
  obtain rfl := hσ9.symm
  refine g_iconst (a := 2) (by decide +kernel) ?_
  refine g_cVV (st := _) (c_Md_wants hn ⟨by omega, by omega⟩ (fun _ => ⟨by omega, by omega⟩) ⟨by decide, by decide⟩ (by omega)) k_Md_wants l_Md_243 (by decide +kernel) (by omega) rfl rfl rfl rfl (Nat.le_of_ble_eq_true rfl) (by omega) ⟨Nat.le_refl _, Nat.le_refl _⟩ ?_
  rintro υ hυ
  rcases ha9 with ⟨c, e⟩ | ⟨c, e⟩
  case inr =>
    have hF : zRft σ0 (zcs b n0 B.q, B.q) υ := by
      rw [hυ, if_pos e]
      have g := hQ.fl (k := 2) (by decide)
      rw [if_pos rfl] at g
      exact g
    have hQ2 : zCq b n0 σ0 A υ := flt _ _ (by rw [zstep_C hm c, zpC_n hk]) hF
    exact t_Md_readsClip201F hn hF hQ2 ⟨by omega, by omega⟩
  obtain rfl : σ = υ := by rw [hυ, if_neg (by omega)]
  have eX := zstep_X (b := b) (n0 := n0) hm c
  have q9 := (zTt_s c.1).1
  refine g_iload_n (i := 3) (by decide +kernel) rfl ?_
  refine g_iconst (a := 1) (by decide +kernel) ?_
  refine g_icmp_ne (off := 9) (tgt := 212) (by decide +kernel) (by decide) ⟨by omega, by omega⟩ ⟨by omega, by omega⟩ (fun h203 => ?_) (fun h203 => ?_)
  · obtain ⟨τ, eτ⟩ : ∃ τ, τ = σ := ⟨_, rfl⟩
    refine g_eq (σ' := τ) ?_ eτ.symm rfl rfl
    have hres : (∃ f, zstep b n0 B = .inl f ∧ zRft σ0 f τ) ∨ ∃ C, zstep b n0 B = .inr (zAm (znx b n0 C.q) C.D C.nm C.sn C.td A.op C.mk) ∧ (C.q = B.q ∧ C.mk = -1) ∧ C.D 0 = B.D 0 ∧ C.D 1 = B.D 1 ∧ C.D 2 = B.D 2 ∧ zRr b n0 σ0 C τ := by
      refine Or.inr ⟨B, ?_, ⟨rfl, hm⟩, rfl, rfl, rfl, by rw [eτ]; exact hR⟩
      rw [eX]
      unfold zpX
      rw [if_neg (by rw [gK]; omega), gO]
    have u14 : 0 ≤ τ 189 14 ∧ τ 189 14 ≤ 8 := by rw [eτ]; omega
    refine g_aload_n (i := 0) (by decide +kernel) rfl ?_
    refine g_geti f_Md_230 (by decide +kernel) (by omega) rfl rfl ?_
    refine g_if_ne (off := 7) (tgt := 223) (by decide +kernel) (by decide) ⟨by omega, by omega⟩ (fun h216 => ?_) (fun h216 => ?_)
    · refine g_retV (by decide +kernel) rfl ⟨Nat.le_refl _, Nat.le_refl _⟩ ?_
      first
        | (rw [← s2.1] at hk9
           exact fin _ _ s1 ⟨s2.2, rfl⟩ s3 s4 s5 (zRrK.nx s6 hk9))
        | (rcases hres with ⟨f, e1, e2⟩ | ⟨C, _, _, _, _, _, e⟩
           · exact flt f _ e1 e2
           · exact absurd e.1.1 h216)
    · refine g_aload_n (i := 0) (by decide +kernel) rfl ?_
      have hres2 : ∃ C, zstep b n0 B = .inr (zAm (znx b n0 C.q) C.D C.nm C.sn C.td A.op C.mk) ∧ (C.q = B.q ∧ C.mk = -1) ∧ C.D 0 = B.D 0 ∧ C.D 1 = B.D 1 ∧ C.D 2 = B.D 2 ∧ zRr b n0 σ0 C τ := by
        rcases hres with ⟨f, _, e⟩ | e
        · exact absurd e.2.1 (by have := e.1; omega)
        · exact e
      obtain ⟨C, s1, s2, s3, s4, s5, s6⟩ := hres2
      have cf := s6.1.2.2.2
      have c17 : τ 189 17 = (zTb b n0 B.q : Int) := by
        have z := s6.1.2.1.2.2.1
        rw [s2.1, if_neg (by omega)] at z
        exact z
      refine g_cVV (st := _) (c_Md_reads hn (h0.bm cf) (h0.end cf) hn0 br.2 c17) k_Md_reads l_Md_247 (by decide +kernel) (by omega) rfl rfl rfl rfl (Nat.le_of_ble_eq_true rfl) (by omega) ⟨Nat.le_refl _, Nat.le_refl _⟩ ?_
      rintro υ9 hk9
      refine g_retV (by decide +kernel) rfl ⟨Nat.le_refl _, Nat.le_refl _⟩ ?_
      first
        | (rw [← s2.1] at hk9
           exact fin _ _ s1 ⟨s2.2, rfl⟩ s3 s4 s5 (zRrK.nx s6 hk9))
        | (rcases hres with ⟨f, e1, e2⟩ | ⟨C, _, _, _, _, _, e⟩
           · exact flt f _ e1 e2
           · exact absurd e.1.1 h216)
  · refine g_aload_n (i := 0) (by decide +kernel) rfl ?_
    refine g_iload (i := 4) (by decide +kernel) rfl ?_
    refine g_cVV (st := _) (c_Md_binds (o := zN A.D) hn hn0 iB vB ho (by rw [gK]; omega) hR) k_Md_binds l_Md_281 (by decide +kernel) (by omega) rfl rfl rfl rfl (Nat.le_of_ble_eq_true rfl) (by omega) ⟨Nat.le_refl _, Nat.le_refl _⟩ ?_
    rintro τ hB9
    have hres : (∃ f, zstep b n0 B = .inl f ∧ zRft σ0 f τ) ∨ ∃ C, zstep b n0 B = .inr (zAm (znx b n0 C.q) C.D C.nm C.sn C.td A.op C.mk) ∧ (C.q = B.q ∧ C.mk = -1) ∧ C.D 0 = B.D 0 ∧ C.D 1 = B.D 1 ∧ C.D 2 = B.D 2 ∧ zRr b n0 σ0 C τ := by
      rw [eX]
      unfold zpX
      rw [if_pos (by rw [gK]; omega)]
      rcases hB9 with ⟨c1, c2⟩ | ⟨c1, c3, c2⟩ | ⟨c1, c3, c2⟩
      · exact Or.inl ⟨_, by rw [if_pos c1], c2⟩
      · exact Or.inl ⟨_, by rw [if_neg c1, if_pos c3], c2⟩
      · refine Or.inr ⟨zAD B (zbd B (zN B.D)), by rw [if_neg c1, if_neg c3, gO], ⟨rfl, hm⟩, ?_, ?_, ?_, c2⟩
        · show zbd B (zN B.D) 0 = _; exact zbd_oth B _ (by decide)
        · show zbd B (zN B.D) 1 = _; exact zbd_oth B _ (by decide)
        · show zbd B (zN B.D) 2 = _; exact zbd_oth B _ (by decide)
    have u14 : 0 ≤ τ 189 14 ∧ τ 189 14 ≤ 8 := by
      rcases hres with ⟨f, _, e⟩ | ⟨C, _, _, _, _, _, e⟩
      · have e1 := e.1; have e2 := e.2.1; omega
      · have e1 := e.1.1; omega
    refine g_aload_n (i := 0) (by decide +kernel) rfl ?_
    refine g_geti f_Md_230 (by decide +kernel) (by omega) rfl rfl ?_
    refine g_if_ne (off := 7) (tgt := 223) (by decide +kernel) (by decide) ⟨by omega, by omega⟩ (fun h216 => ?_) (fun h216 => ?_)
    · refine g_retV (by decide +kernel) rfl ⟨Nat.le_refl _, Nat.le_refl _⟩ ?_
      first
        | (rw [← s2.1] at hk9
           exact fin _ _ s1 ⟨s2.2, rfl⟩ s3 s4 s5 (zRrK.nx s6 hk9))
        | (rcases hres with ⟨f, e1, e2⟩ | ⟨C, _, _, _, _, _, e⟩
           · exact flt f _ e1 e2
           · exact absurd e.1.1 h216)
    · refine g_aload_n (i := 0) (by decide +kernel) rfl ?_
      have hres2 : ∃ C, zstep b n0 B = .inr (zAm (znx b n0 C.q) C.D C.nm C.sn C.td A.op C.mk) ∧ (C.q = B.q ∧ C.mk = -1) ∧ C.D 0 = B.D 0 ∧ C.D 1 = B.D 1 ∧ C.D 2 = B.D 2 ∧ zRr b n0 σ0 C τ := by
        rcases hres with ⟨f, _, e⟩ | e
        · exact absurd e.2.1 (by have := e.1; omega)
        · exact e
      obtain ⟨C, s1, s2, s3, s4, s5, s6⟩ := hres2
      have cf := s6.1.2.2.2
      have c17 : τ 189 17 = (zTb b n0 B.q : Int) := by
        have z := s6.1.2.1.2.2.1
        rw [s2.1, if_neg (by omega)] at z
        exact z
      refine g_cVV (st := _) (c_Md_reads hn (h0.bm cf) (h0.end cf) hn0 br.2 c17) k_Md_reads l_Md_247 (by decide +kernel) (by omega) rfl rfl rfl rfl (Nat.le_of_ble_eq_true rfl) (by omega) ⟨Nat.le_refl _, Nat.le_refl _⟩ ?_
      rintro υ9 hk9
      refine g_retV (by decide +kernel) rfl ⟨Nat.le_refl _, Nat.le_refl _⟩ ?_
      first
        | (rw [← s2.1] at hk9
           exact fin _ _ s1 ⟨s2.2, rfl⟩ s3 s4 s5 (zRrK.nx s6 hk9))
        | (rcases hres with ⟨f, e1, e2⟩ | ⟨C, _, _, _, _, _, e⟩
           · exact flt f _ e1 e2
           · exact absurd e.1.1 h216)
theorem w_Md_readsClip157 {G : zG} {X : zX} {n : Nat} {b : Nat → Int} {n0 : Nat} {σ0 : zSt} {A : zAb} {fu : Nat} {K x1 x2 : Int} (hn : 220 ≤ n) (h0 : zR0 b n0 σ0) (hn0 : n0 ≤ 600) (hA : zAi n0 A) (hv : zAv A) (hs : zN A.D = 0 ∨ A.op ≠ -1) (hK : 0 ≤ K ∧ K ≤ 2) (hd : 5 ≤ zdep (A.D 2) 12 A.op + fu) (hd4 : zdep (A.D 2) 12 A.op ≤ 4) (ihr : ∀ (f1 : Nat), f1 < fu → ∀ (B : zAb) (τ : zSt) (p : Int), zRr b n0 σ0 B τ → zAi n0 B → zAv B → B.mk = -1 → (zN B.D = 0 ∨ B.op ≠ -1) → 5 ≤ zdep (B.D 2) 12 B.op + f1 → p = (if B.op = -1 then 0 else (zcnt (fun j => decide (B.D 2 j = B.op)) (B.D 0 0).toNat : Int)) → Gm G y_Md_readsClip m_Md_readsClip (6 + f1) 0 0 [vr G 189, vi B.op, vi p] n SH τ (zV n SH (fun σ' => zCq b n0 σ0 B σ')))  : ∀ (m : Nat) (B : zAb) (x5 : Int) (σ : zSt), zPt b n0 A B → zGw A B K → B.mk = -1 → B.op = (zN A.D : Int) → zRr b n0 σ0 B σ → x5 = (zcnt (fun j => decide (B.D 2 j = (zN A.D : Int))) (zN B.D) : Int) → zN B.D ≤ 12 → 12 < zN B.D + m → Go G X m_Md_readsClip (6 + fu, 0, 0, 0, 0) n SH σ 157 [(0, vr G 189), (1, vi x1), (2, vi x2), (3, vi K), (4, vi (zN A.D : Int)), (5, vi x5)] [] (zV n SH (fun σ' => zCq b n0 σ0 A σ')) := by
  intro m
  induction m with
  | zero => intro B x5 σ hP hG hm1 ho hR e5 hN9 hm; exact absurd hm (by omega)
  | succ m ih =>
    intro B x5 σ hP hG hm1 ho hR e5 hN9 hm
    obtain ⟨iB, vB⟩ := hP.inv hA hv hs
    have hQ := hR.1
    have h14 := hQ.1
    have ht := hQ.2.1
    have tr := zTt_r (b := b) (n0 := n0) (q := B.q)
    have sr := zsrt_r (zTt b n0 B.q)
    have e18 := ht.2.1
    have kr := zkw_r (b := b) (n0 := n0) (q := B.q)
    have hqB := iB.1
    have hG1 := hG.1
    have N12 : zN A.D < 12 ∧ zN B.D ≤ 12 := by have := iB.2.1.1; have := hG.1; unfold zN at *; omega
    have ns : ¬ zSt0 B := fun y => by have := y.2; omega
    have x5r := zcnt_12 (P := fun j => decide (B.D 2 j = (zN A.D : Int))) N12.2
    refine g_aload_n (i := 0) (by decide +kernel) rfl ?_
    refine g_geti f_Md_230 (by decide +kernel) (by omega) rfl rfl ?_
    refine g_if_ne (off := 29) (tgt := 190) (by decide +kernel) (by decide) ⟨by omega, by omega⟩ (fun h161 => ?_) (fun h161 => ?_)
    · first
        | (exfalso; exact h161 h14)
        | (refine t_Md_readsClip190 hn h0 hn0 hA hv hs hK hP hG hm1 ho hR (fun y => ?_)
           rw [ea8] at h173
           exact zit0 h173 y)
    · refine g_aload_n (i := 0) (by decide +kernel) rfl ?_
      refine g_cVI (st := _) (c_Md_key (q := B.q) hn h0 hn0 hQ) k_Md_key l_Md_250 (by decide +kernel) (by omega) rfl rfl rfl rfl (Nat.le_of_ble_eq_true rfl) (by omega) ⟨Nat.le_refl _, Nat.le_refl _⟩ ?_
      rintro a9 σ9 ⟨ea9, hσ9⟩
      obtain rfl := hσ9.symm
      subst ea9
      refine g_iconst (a := 0) (by decide +kernel) ?_
      refine g_iconst (a := 2) (by decide +kernel) ?_
      refine g_cSI (st := _) (c_Md_isIn ⟨by omega, by omega⟩ ⟨by decide, by decide⟩ ⟨by decide, by decide⟩) k_Md_isIn l_Md_152 (by decide +kernel) rfl rfl (Nat.le_of_ble_eq_true rfl) (by omega) ⟨Nat.le_refl _, Nat.le_refl _⟩ ?_
      rintro a8 σ8 ⟨ea8, hσ8⟩
      obtain rfl := hσ8.symm
      have a8r : a8 = 0 ∨ a8 = 1 := by rw [ea8]; exact zb01
      refine g_if_eq (off := 17) (tgt := 190) (by decide +kernel) (by decide) ⟨by omega, by omega⟩ (fun h173 => ?_) (fun h173 => ?_)
      · first
          | (exfalso; exact h161 h14)
          | (refine t_Md_readsClip190 hn h0 hn0 hA hv hs hK hP hG hm1 ho hR (fun y => ?_)
             rw [ea8] at h173
             exact zit0 h173 y)
      · refine g_aload_n (i := 0) (by decide +kernel) rfl ?_
        refine g_iload (i := 4) (by decide +kernel) rfl ?_
        refine g_iload (i := 5) (by decide +kernel) rfl ?_
        have hk2 : 0 ≤ zkw b n0 B.q ∧ zkw b n0 B.q ≤ 2 := by
          rw [ea8] at h173
          exact zit1 h173
        have t2 : zTt b n0 B.q = 2 := zkw_w hk2.1
        have nX : ¬ (zTt b n0 B.q = 4 ∧ zTs b n0 B.q = 41) := fun y => by omega
        have dB : zdep (B.D 2) 12 B.op = zdep (A.D 2) 12 A.op + 1 := by
          obtain ⟨⟨d, r, V⟩, -⟩ := vB.1.2.1
          have z := zdep_st (j := zN A.D) V (by rw [zneu_N]; omega)
          rw [zneu_o B.D (show (2 : Nat) ≠ 4 by decide)] at z
          rw [ho, z, hG.2.2.1]
          have tA := hv.tree
          have oA := hA.2.2.1
          rw [zdep_cg (N := zN A.D) (fun j hj => ⟨(tA j hj).1, (tA j hj).2.1⟩) (fun j hj => (hG.2.1 j hj).2) 12 A.op oA.1 (by have := hA.2.1.1.1; unfold zN; omega)]
        have g9 := ihr (fu - 1) (by omega) B σ x5 hR iB vB hm1 (Or.inr (by omega)) (by omega) (by rw [if_neg (by omega), ho]; exact e5)
        rw [ho] at g9
        refine g_cVV (st := _) (g9) k_Md_readsClip l_Md_278 (by decide +kernel) (by omega) rfl rfl rfl rfl (Nat.le_of_ble_eq_true rfl) (by omega) ⟨Nat.le_refl _, Nat.le_refl _⟩ ?_
        rintro τ9 hC9
        refine g_iinc (i := 5) (b := 1) (L' := [(0, _), (1, _), (2, _), (3, _), (4, _), (5, _)]) (by decide +kernel) rfl rfl rfl ?_
        refine g_goto (off := -30) (tgt := 157) (by decide +kernel) (by decide) ?_
        rcases hC9 with ⟨f, e1, e2⟩ | ⟨C, L, c1, ⟨c2, c3⟩, c4, c5⟩
        · exact t_Md_readsClip157F hn e2 (Or.inl ⟨f, zPf.sub hP ns hm1 nX e1, e2⟩) ⟨by omega, by omega⟩
        · refine ih C _ _ (hP.sub ns hm1 nX c1) (hG.tr ho c4) c2 (c3.trans ho) c5 ?_ (by have := ((hP.sub ns hm1 nX c1).inv hA hv hs).1.2.1.1; unfold zN; omega) (by have := c4.1; omega)
          rw [c4.cnt ho hG.1, e5]
          push_cast
          rfl
theorem t_Md_readsClip137 {G : zG} {X : zX} {n : Nat} {σ : zSt} {b : Nat → Int} {n0 : Nat} {σ0 : zSt} {A : zAb} {fu : Nat} {K x1 x2 : Int} (hn : 220 ≤ n) (h0 : zR0 b n0 σ0) (hn0 : n0 ≤ 600) (hA : zAi n0 A) (hv : zAv A) (hs : zN A.D = 0 ∨ A.op ≠ -1) (hK : 0 ≤ K ∧ K ≤ 2) (hd : 5 ≤ zdep (A.D 2) 12 A.op + fu) (hd4 : zdep (A.D 2) 12 A.op ≤ 4) (ihr : ∀ (f1 : Nat), f1 < fu → ∀ (B : zAb) (τ : zSt) (p : Int), zRr b n0 σ0 B τ → zAi n0 B → zAv B → B.mk = -1 → (zN B.D = 0 ∨ B.op ≠ -1) → 5 ≤ zdep (B.D 2) 12 B.op + f1 → p = (if B.op = -1 then 0 else (zcnt (fun j => decide (B.D 2 j = B.op)) (B.D 0 0).toNat : Int)) → Gm G y_Md_readsClip m_Md_readsClip (6 + f1) 0 0 [vr G 189, vi B.op, vi p] n SH τ (zV n SH (fun σ' => zCq b n0 σ0 B σ'))) {B : zAb} (hP : zPt b n0 A B) (hG : zGw A B K) (hm : B.mk = (zN A.D : Int)) (ho : B.op = A.op) (hN1 : zN B.D = zN A.D + 1) (hR : zRr b n0 σ0 B σ) (hk : ¬ (3 ≤ zkw b n0 B.q ∧ zkw b n0 B.q ≤ 15))  : Go G X m_Md_readsClip (6 + fu, 0, 0, 0, 0) n SH σ 137 [(0, vr G 189), (1, vi x1), (2, vi x2), (3, vi K), (4, vi (zN A.D : Int))] [] (zV n SH (fun σ' => zCq b n0 σ0 A σ')) := by
  obtain ⟨iB, vB⟩ := hP.inv hA hv hs
  have hQ := hR.1
  have h14 := hQ.1
  have ht := hQ.2.1
  have tr := zTt_r (b := b) (n0 := n0) (q := B.q)
  have sr := zsrt_r (zTt b n0 B.q)
  have e18 := ht.2.1
  have kr := zkw_r (b := b) (n0 := n0) (q := B.q)
  have hqB := iB.1
  have hG1 := hG.1
  have N12 : zN A.D < 12 ∧ zN B.D ≤ 12 := by have := iB.2.1.1; have := hG.1; unfold zN at *; omega
  have ns : ¬ zSt0 B := fun y => by have := y.1; omega
  have gK : B.D 1 (zN A.D) = K := hG.2.2.2.1
  have flt : ∀ (f : Int × Nat) (υ : zSt), zstep b n0 B = .inl f → zRft σ0 f υ → zCq b n0 σ0 A υ := fun f υ e1 e2 => Or.inl ⟨f, Or.inr ⟨B, hP, ns, e1⟩, e2⟩
  refine g_iload_n (i := 3) (by decide +kernel) rfl ?_
  refine g_if_ne (off := 10) (tgt := 148) (by decide +kernel) (by decide) ⟨by omega, by omega⟩ (fun h138 => ?_) (fun h138 => ?_)
  · refine g_aload_n (i := 0) (by decide +kernel) rfl ?_
    refine g_bipush (a := 40) (by decide +kernel) (by decide) ?_
    refine g_cVV (st := _) (c_Md_sign (q := B.q) hn h0 hn0 hQ hqB (by decide)) k_Md_sign l_Md_275 (by decide +kernel) (by omega) rfl rfl rfl rfl (Nat.le_of_ble_eq_true rfl) (by omega) ⟨Nat.le_refl _, Nat.le_refl _⟩ ?_
    rintro τ9 hS9
    rcases hS9 with ⟨c, hk9⟩ | ⟨c, e⟩
    case inr =>
      exact t_Md_readsClip154F hn e (flt _ _ (zstep_nS hm (by omega) (by rw [gK, if_neg (by omega)]; exact c)) e) ⟨by omega, by omega⟩
    refine g_iconst (a := 0) (by decide +kernel) ?_
    refine g_istore (i := 5) (L' := [(0, _), (1, _), (2, _), (3, _), (4, _), (5, _)]) (by decide +kernel) rfl rfl ?_
    have e1 := zstep_yS (b := b) (n0 := n0) hm (by rw [gK, if_neg (by omega)]; exact c)
    rw [gK, if_neg (by omega)] at e1
    have g := zRrK.nx hR hk9
    refine w_Md_readsClip157 hn h0 hn0 hA hv hs hK hd hd4 ihr 13 _ _ _ (hP.one ns e1) (hG.same rfl rfl rfl) rfl rfl ⟨g.1, g.2.1, fun y => absurd rfl y, g.2.2.2⟩ ?_ N12.2 (by show 12 < zN B.D + 13; omega)
    show (0 : Int) = _
    rw [zcnt_beyond (a := 0) _ (by omega) (fun j _ hj => decide_eq_false (by have hj2 : j < zN B.D := hj; have := vB.par j hj2; show ¬ B.D 2 j = _; omega))]
    rfl
  · refine g_aload_n (i := 0) (by decide +kernel) rfl ?_
    refine g_bipush (a := 59) (by decide +kernel) (by decide) ?_
    refine g_cVV (st := _) (c_Md_sign (q := B.q) hn h0 hn0 hQ hqB (by decide)) k_Md_sign l_Md_275 (by decide +kernel) (by omega) rfl rfl rfl rfl (Nat.le_of_ble_eq_true rfl) (by omega) ⟨Nat.le_refl _, Nat.le_refl _⟩ ?_
    rintro τ9 hS9
    refine g_retV (by decide +kernel) rfl ⟨Nat.le_refl _, Nat.le_refl _⟩ ?_
    rcases hS9 with ⟨c, hk9⟩ | ⟨c, e⟩
    · have e1 := zstep_yS (b := b) (n0 := n0) hm (by rw [gK, if_pos (by omega)]; exact c)
      rw [gK, if_pos (by omega)] at e1
      refine Or.inr ⟨_, K, hP.one ns e1, ⟨rfl, ho⟩, hG.same rfl rfl rfl, ?_⟩
      have g := zRrK.nx hR hk9
      exact ⟨g.1, g.2.1, fun y => absurd rfl y, g.2.2.2⟩
    · exact flt _ _ (zstep_nS hm (by omega) (by rw [gK, if_pos (by omega)]; exact c)) e
theorem w_Md_readsClip104 {G : zG} {X : zX} {n : Nat} {b : Nat → Int} {n0 : Nat} {σ0 : zSt} {A : zAb} {fu : Nat} {K x1 x2 : Int} (hn : 220 ≤ n) (h0 : zR0 b n0 σ0) (hn0 : n0 ≤ 600) (hA : zAi n0 A) (hv : zAv A) (hs : zN A.D = 0 ∨ A.op ≠ -1) (hK : 0 ≤ K ∧ K ≤ 2) (hd : 5 ≤ zdep (A.D 2) 12 A.op + fu) (hd4 : zdep (A.D 2) 12 A.op ≤ 4) (ihr : ∀ (f1 : Nat), f1 < fu → ∀ (B : zAb) (τ : zSt) (p : Int), zRr b n0 σ0 B τ → zAi n0 B → zAv B → B.mk = -1 → (zN B.D = 0 ∨ B.op ≠ -1) → 5 ≤ zdep (B.D 2) 12 B.op + f1 → p = (if B.op = -1 then 0 else (zcnt (fun j => decide (B.D 2 j = B.op)) (B.D 0 0).toNat : Int)) → Gm G y_Md_readsClip m_Md_readsClip (6 + f1) 0 0 [vr G 189, vi B.op, vi p] n SH τ (zV n SH (fun σ' => zCq b n0 σ0 B σ')))  : ∀ (m : Nat) (B : zAb) (σ : zSt), zPt b n0 A B → zGw A B K → B.mk = (zN A.D : Int) → B.op = A.op → zN B.D = zN A.D + 1 → zRr b n0 σ0 B σ → B.q ≤ n0 → n0 < B.q + m → Go G X m_Md_readsClip (6 + fu, 0, 0, 0, 0) n SH σ 104 [(0, vr G 189), (1, vi x1), (2, vi x2), (3, vi K), (4, vi (zN A.D : Int))] [] (zV n SH (fun σ' => zCq b n0 σ0 A σ')) := by
  intro m
  induction m with
  | zero => intro B σ hP hG hm1 ho hN1 hR hq9 hm; exact absurd hm (by omega)
  | succ m ih =>
    intro B σ hP hG hm1 ho hN1 hR hq9 hm
    obtain ⟨iB, vB⟩ := hP.inv hA hv hs
    have hQ := hR.1
    have h14 := hQ.1
    have ht := hQ.2.1
    have tr := zTt_r (b := b) (n0 := n0) (q := B.q)
    have sr := zsrt_r (zTt b n0 B.q)
    have e18 := ht.2.1
    have kr := zkw_r (b := b) (n0 := n0) (q := B.q)
    have hqB := iB.1
    have hG1 := hG.1
    have N12 : zN A.D < 12 ∧ zN B.D ≤ 12 := by have := iB.2.1.1; have := hG.1; unfold zN at *; omega
    have ns : ¬ zSt0 B := fun y => by have := y.1; omega
    refine g_aload_n (i := 0) (by decide +kernel) rfl ?_
    refine g_geti f_Md_230 (by decide +kernel) (by omega) rfl rfl ?_
    refine g_if_ne (off := 29) (tgt := 137) (by decide +kernel) (by decide) ⟨by omega, by omega⟩ (fun h108 => ?_) (fun h108 => ?_)
    · first
        | (exfalso; exact h108 h14)
        | (refine t_Md_readsClip137 hn h0 hn0 hA hv hs hK hd hd4 ihr hP hG hm1 ho hN1 hR (fun y => ?_)
           rw [ea8] at h121
           exact zit0 h121 y)
    · refine g_aload_n (i := 0) (by decide +kernel) rfl ?_
      refine g_cVI (st := _) (c_Md_key (q := B.q) hn h0 hn0 hQ) k_Md_key l_Md_250 (by decide +kernel) (by omega) rfl rfl rfl rfl (Nat.le_of_ble_eq_true rfl) (by omega) ⟨Nat.le_refl _, Nat.le_refl _⟩ ?_
      rintro a9 σ9 ⟨ea9, hσ9⟩
      obtain rfl := hσ9.symm
      subst ea9
      refine g_iconst (a := 3) (by decide +kernel) ?_
      refine g_bipush (a := 15) (by decide +kernel) (by decide) ?_
      refine g_cSI (st := _) (c_Md_isIn ⟨by omega, by omega⟩ ⟨by decide, by decide⟩ ⟨by decide, by decide⟩) k_Md_isIn l_Md_152 (by decide +kernel) rfl rfl (Nat.le_of_ble_eq_true rfl) (by omega) ⟨Nat.le_refl _, Nat.le_refl _⟩ ?_
      rintro a8 σ8 ⟨ea8, hσ8⟩
      obtain rfl := hσ8.symm
      have a8r : a8 = 0 ∨ a8 = 1 := by rw [ea8]; exact zb01
      refine g_if_eq (off := 16) (tgt := 137) (by decide +kernel) (by decide) ⟨by omega, by omega⟩ (fun h121 => ?_) (fun h121 => ?_)
      · first
          | (exfalso; exact h108 h14)
          | (refine t_Md_readsClip137 hn h0 hn0 hA hv hs hK hd hd4 ihr hP hG hm1 ho hN1 hR (fun y => ?_)
             rw [ea8] at h121
             exact zit0 h121 y)
      · refine g_aload_n (i := 0) (by decide +kernel) rfl ?_
        refine g_iload (i := 4) (by decide +kernel) rfl ?_
        refine g_aload_n (i := 0) (by decide +kernel) rfl ?_
        refine g_cVI (st := _) (c_Md_key (q := B.q) hn h0 hn0 hQ) k_Md_key l_Md_250 (by decide +kernel) (by omega) rfl rfl rfl rfl (Nat.le_of_ble_eq_true rfl) (by omega) ⟨Nat.le_refl _, Nat.le_refl _⟩ ?_
        rintro a9 σ9 ⟨ea9, hσ9⟩
        obtain rfl := hσ9.symm
        subst ea9
        have hk2 : 3 ≤ zkw b n0 B.q ∧ zkw b n0 B.q ≤ 15 := by
          rw [ea8] at h121
          exact zit1 h121
        have t2 : zTt b n0 B.q = 2 := zkw_w (by omega)
        obtain ⟨w, hw⟩ : ∃ w : Nat, zkw b n0 B.q = (w : Int) := ⟨(zkw b n0 B.q).toNat, by omega⟩
        rw [hw]
        refine g_cVV (st := _) (c_Md_readsMark (k := zN A.D) hn h0 hn0 iB vB hm1 hw (by omega) (by omega) hR) k_Md_readsMark l_Md_272 (by decide +kernel) (by omega) rfl rfl rfl rfl (Nat.le_of_ble_eq_true rfl) (by omega) ⟨Nat.le_refl _, Nat.le_refl _⟩ ?_
        rintro τ9 hM9
        refine g_goto (off := -30) (tgt := 104) (by decide +kernel) (by decide) ?_
        cases ez : zpK b n0 B (zN A.D) with
        | inl f =>
          have hM2 : zRg b n0 σ0 (zpK b n0 B (zN A.D)) τ9 := hM9
          rw [ez] at hM2
          exact t_Md_readsClip104F hn hM2 (Or.inl ⟨f, Or.inr ⟨B, hP, ns, by rw [zstep_K hm1 t2]; exact ez⟩, hM2⟩) ⟨by omega, by omega⟩
        | inr C =>
          have hM2 : zRg b n0 σ0 (zpK b n0 B (zN A.D)) τ9 := hM9
          rw [ez] at hM2
          obtain ⟨⟨k1, k2⟩, k3, k4, k5⟩ := zpK_keep ez
          have kq := zpK_q ez
          exact ih C _ (hP.one ns (by rw [zstep_K hm1 t2]; exact ez)) (hG.same k3 k4 k5) (k2.trans hm1) (k1.trans ho) (by rw [show zN C.D = zN B.D by unfold zN; rw [k3]]; exact hN1) hM2.1 hM2.2.1 (by omega)
theorem c_Md_readsClip {G : zG} {n : Nat} {b : Nat → Int} {n0 : Nat} {σ0 : zSt} (hn : 220 ≤ n) (h0 : zR0 b n0 σ0) (hn0 : n0 ≤ 600) : ∀ (fu : Nat) (A : zAb) (σ : zSt) (p : Int), zRr b n0 σ0 A σ → zAi n0 A → zAv A → A.mk = -1 → (zN A.D = 0 ∨ A.op ≠ -1) → 5 ≤ zdep (A.D 2) 12 A.op + fu → p = (if A.op = -1 then 0 else (zcnt (fun j => decide (A.D 2 j = A.op)) (A.D 0 0).toNat : Int)) → Gm G y_Md_readsClip m_Md_readsClip (6 + fu) 0 0 [vr G 189, vi A.op, vi p] n SH σ (zV n SH (fun σ' => zCq b n0 σ0 A σ')) := by
  intro fu
  induction fu using Nat.strongRecOn with
  | ind fu ihr =>
    intro A σ p hR hA hv hm1 hs hd hp
    refine g_enter (L := [(0, _), (1, _), (2, _)]) (by decide) rfl rfl rfl (Nat.le_of_ble_eq_true rfl) (fun X => ?_)
    have hG := hA.2.1
    have hq := hA.1
    have hQ := hR.1
    have h14 := hQ.1
    have ht := hQ.2.1
    have hf := hQ.2.2.2
    have tr := zTt_r (b := b) (n0 := n0) (q := A.q)
    have sr := zsrt_r (zTt b n0 A.q)
    have e18 := ht.2.1
    have kr := zkw_r (b := b) (n0 := n0) (q := A.q)
    have op := hA.2.2.1
    have h12 : 0 ≤ A.D 0 0 ∧ A.D 0 0 ≤ 12 := ⟨hG.1.1, hG.1.2.1⟩
    have hNN : zN A.D = (A.D 0 0).toNat := rfl
    have br := zTb_r (b := b) hq
    have pr : 0 ≤ p ∧ p ≤ 12 := by
      rw [hp]
      split
      · decide
      · exact zcnt_12 (by omega)
    obtain ⟨⟨d, r, V⟩, -⟩ := hv.1.2.1
    have V2 : zneu A.D 2 = A.D 2 := zneu_o A.D (by decide)
    have VN : zN (zneu A.D) = zN A.D := zneu_N A.D
    refine g_aload_n (i := 0) (by decide +kernel) rfl ?_
    refine g_cVI (st := _) (c_Md_key (q := A.q) hn h0 hn0 hQ) k_Md_key l_Md_250 (by decide +kernel) (by omega) rfl rfl rfl rfl (Nat.le_of_ble_eq_true rfl) (by omega) ⟨Nat.le_refl _, Nat.le_refl _⟩ ?_
    rintro a9 σ9 ⟨ea9, hσ9⟩
    obtain rfl := hσ9.symm
    subst ea9
    refine g_istore_n (i := 3) (L' := [(0, _), (1, _), (2, _), (3, _)]) (by decide +kernel) rfl rfl ?_
    refine g_aload_n (i := 0) (by decide +kernel) rfl ?_
    refine g_iload_n (i := 3) (by decide +kernel) rfl ?_
    refine g_iconst (a := 0) (by decide +kernel) ?_
    refine g_iconst (a := 2) (by decide +kernel) ?_
    refine g_cSI (st := _) (c_Md_isIn ⟨by omega, by omega⟩ ⟨by decide, by decide⟩ ⟨by decide, by decide⟩) k_Md_isIn l_Md_152 (by decide +kernel) rfl rfl (Nat.le_of_ble_eq_true rfl) (by omega) ⟨Nat.le_refl _, Nat.le_refl _⟩ ?_
    rintro a8 σ8 ⟨ea8, hσ8⟩
    obtain rfl := hσ8.symm
    have a8r : a8 = 0 ∨ a8 = 1 := by rw [ea8]; exact zb01
    refine g_iconst (a := 2) (by decide +kernel) ?_
    refine g_cVV (st := _) (c_Md_wants hn ⟨by omega, by omega⟩ (fun _ => ⟨by omega, by omega⟩) ⟨by decide, by decide⟩ a8r) k_Md_wants l_Md_243 (by decide +kernel) (by omega) rfl rfl rfl rfl (Nat.le_of_ble_eq_true rfl) (by omega) ⟨Nat.le_refl _, Nat.le_refl _⟩ ?_
    rintro υ hυ
    have hS : ((0 ≤ zkw b n0 A.q ∧ zkw b n0 A.q ≤ 2) ∧ υ = σ) ∨ (¬ (0 ≤ zkw b n0 A.q ∧ zkw b n0 A.q ≤ 2) ∧ zRft σ0 (zcs b n0 A.q, A.q) υ) := by
      by_cases c : 0 ≤ zkw b n0 A.q ∧ zkw b n0 A.q ≤ 2
      · rw [if_pos c] at ea8
        exact Or.inl ⟨c, by rw [hυ, if_neg (by omega)]⟩
      · rw [if_neg c] at ea8
        refine Or.inr ⟨c, ?_⟩
        rw [hυ, if_pos ea8]
        have g := hQ.fl (k := 2) (by decide)
        rw [if_pos rfl] at g
        exact g
    have u190 : ∀ j, υ 190 j = σ 190 j := fun j => by
      rw [hυ]
      split
      · exact zfl_o (Or.inl (by decide))
      · rfl
    have u18 : υ 189 18 = σ 189 18 := by
      rw [hυ]
      split
      · exact zfl_o (by decide)
      · rfl
    have u14 : 0 ≤ υ 189 14 ∧ υ 189 14 ≤ 8 := by
      rcases hS with ⟨_, e⟩ | ⟨_, e⟩
      · rw [e]; omega
      · have e1 := e.1; have e2 := e.2.1; omega
    have c0 : υ 190 1746 = (zN A.D : Int) := by
      have z : σ 190 1746 = A.D 0 0 := hR.2.2.2.1.1
      rw [u190, z]; omega
    have E2 : ∀ j, j < zN (zneu A.D) → υ 190 (1760 + j) = zneu A.D 2 j := fun j hj => by
      rw [VN] at hj
      rw [u190, V2]
      exact hR.2.2.2.2.1 j hj 2 (by decide) (by decide)
    refine g_aload_n (i := 0) (by decide +kernel) rfl ?_
    refine g_getr f_Md_7 (by decide +kernel) (by omega) rfl rfl ?_
    refine g_sipush (a := 1746) (by decide +kernel) (by decide) ?_
    refine g_iald (j := 1746) (by decide +kernel) (by omega) rfl rfl (by omega) (by decide) ?_
    refine g_istore (i := 4) (L' := [(0, _), (1, _), (2, _), (3, _), (4, _)]) (by decide +kernel) rfl rfl ?_
    refine g_aload_n (i := 0) (by decide +kernel) rfl ?_
    refine g_iload (i := 4) (by decide +kernel) rfl ?_
    refine g_bipush (a := 12) (by decide +kernel) (by decide) ?_
    refine g_icmp_ge (off := 20) (tgt := 51) (by decide +kernel) (by decide) ⟨by omega, by omega⟩ ⟨by omega, by omega⟩ (fun h31 => ?_) (fun h31 => ?_)
    · refine g_iconst (a := 0) (by decide +kernel) ?_
      refine g_bipush (a := 6) (by decide +kernel) (by decide) ?_
      refine g_cVV (st := _) (c_Md_wants hn ⟨by omega, by omega⟩ (fun _ => ⟨by omega, by omega⟩) ⟨by decide, by decide⟩ (by decide)) k_Md_wants l_Md_243 (by decide +kernel) (by omega) rfl rfl rfl rfl (Nat.le_of_ble_eq_true rfl) (by omega) ⟨Nat.le_refl _, Nat.le_refl _⟩ ?_
      rintro τ hτ
      have hS2 : (((0 ≤ zkw b n0 A.q ∧ zkw b n0 A.q ≤ 2) ∧ ¬ (12 ≤ A.D 0 0 ∨ 4 < zdep (A.D 2) 12 A.op)) ∧ τ = σ) ∨ ∃ f, zpC b n0 A = .inl f ∧ zRft σ0 f τ := by
        rcases hS with ⟨c, e⟩ | ⟨c, e⟩
        · by_cases c2 : 12 ≤ A.D 0 0 ∨ 4 < zdep (A.D 2) 12 A.op
          · first
              | (exfalso; omega)
              | (refine Or.inr ⟨_, zpC_6 c c2, ?_⟩
                 rw [hτ, if_pos rfl, e]
                 have g := hQ.fl (k := 6) (by decide)
                 rw [if_neg (by decide)] at g
                 exact g)
          · first
              | (exfalso; omega)
              | exact Or.inl ⟨⟨c, c2⟩, by rw [hτ, if_neg (by decide)]; exact e⟩
        · refine Or.inr ⟨_, zpC_n c, ?_⟩
          rw [e.wt hτ]
          exact e
      have t14 : 0 ≤ τ 189 14 ∧ τ 189 14 ≤ 8 := by
        rcases hS2 with ⟨_, e⟩ | ⟨f, _, e⟩
        · rw [e]; omega
        · have e1 := e.1; have e2 := e.2.1; omega
      refine g_aload_n (i := 0) (by decide +kernel) rfl ?_
      refine g_geti f_Md_230 (by decide +kernel) (by omega) rfl rfl ?_
      refine g_if_le (off := 4) (tgt := 65) (by decide +kernel) (by decide) ⟨by omega, by omega⟩ (fun h61 => ?_) (fun h61 => ?_)
      · rcases hS2 with ⟨⟨ck, c2⟩, e⟩ | ⟨f, _, e⟩
        case inr => exact absurd e.2.1 (by have := e.1; omega)
        obtain rfl := e.symm
        have t2 : zTt b n0 A.q = 2 := zkw_w ck.1
        have q0 : A.q < n0 := (zTt_w t2).1
        have e17 : σ 189 17 = (zTb b n0 A.q : Int) := by rw [ht.2.2.1, if_neg (by omega)]
        have N12 : zN A.D < 12 := by omega
        refine g_aload_n (i := 0) (by decide +kernel) rfl ?_
        refine g_cVV (st := _) (c_Md_reads hn (h0.bm hf) (h0.end hf) hn0 br.2 e17) k_Md_reads l_Md_247 (by decide +kernel) (by omega) rfl rfl rfl rfl (Nat.le_of_ble_eq_true rfl) (by omega) ⟨Nat.le_refl _, Nat.le_refl _⟩ ?_
        rintro υ9 hk9
        have hE := zRrK.nx hR hk9
        rw [c0]
        refine g_aload_n (i := 0) (by decide +kernel) rfl ?_
        refine g_iload (i := 4) (by decide +kernel) rfl ?_
        refine g_iload_n (i := 3) (by decide +kernel) rfl ?_
        refine g_iload_n (i := 1) (by decide +kernel) rfl ?_
        refine g_iload_n (i := 2) (by decide +kernel) rfl ?_
        refine g_cVV (st := _) (c_Md_begins (k := zN A.D) (x := zkw b n0 A.q) (y := A.op) (p := p) hn N12) k_Md_begins l_Md_266 (by decide +kernel) (by omega) rfl rfl rfl rfl (Nat.le_of_ble_eq_true rfl) (by omega) ⟨Nat.le_refl _, Nat.le_refl _⟩ ?_
        rintro υ8 hυ8
        refine g_aload_n (i := 0) (by decide +kernel) rfl ?_
        refine g_getr f_Md_82 (by decide +kernel) (by omega) rfl rfl ?_
        refine g_iload (i := 4) (by decide +kernel) rfl ?_
        refine g_iconst (a := 0) (by decide +kernel) ?_
        refine g_iast (j := zN A.D) (by decide +kernel) (by omega) rfl rfl (by omega) (by decide) ?_
        refine g_aload_n (i := 0) (by decide +kernel) rfl ?_
        refine g_getr f_Md_7 (by decide +kernel) (by omega) rfl rfl ?_
        refine g_sipush (a := 1746) (by decide +kernel) (by decide) ?_
        refine g_dup2 (by decide +kernel) rfl rfl ?_
        refine g_iald (j := 1746) (by decide +kernel) (by omega) rfl rfl (by omega) (by decide) ?_
        refine g_iconst (a := 1) (by decide +kernel) ?_
        refine g_iadd (by decide +kernel) ?_
        refine g_iast (j := 1746) (by decide +kernel) (by omega) rfl rfl (by omega) (by decide) ?_
        refine g_aload_n (i := 0) (by decide +kernel) rfl ?_
        refine g_iload (i := 4) (by decide +kernel) rfl ?_
        obtain ⟨ψ, eψ⟩ : ∃ ψ, ψ = zs (zs υ8 200 (zN A.D) 0) 190 1746 (zs υ8 200 (zN A.D) 0 190 1746 + 1) := ⟨_, rfl⟩
        refine g_eq (σ' := ψ) ?_ eψ.symm rfl rfl
        have e0 : υ9 190 1746 = A.D 0 0 := hE.2.2.2.1.1
        have p0 : υ8 190 = zwc (υ9 190) 1746 (zN A.D) (zkw b n0 A.q) A.op p 0 (-1) 0 (zTab 0) := by rw [hυ8, zrow_eq]
        have p1 : υ8 190 1746 = A.D 0 0 := by rw [p0, zwc_o (by omega) (by omega) (by omega) (by omega) (by omega) (by omega) (Or.inl (by omega))]; exact e0
        have q1 : ψ 190 1746 = A.D 0 0 + 1 := by rw [eψ, zs_eq, zs_other (by decide), p1]
        have q2 : ∀ j, j < 1746 → ψ 190 j = υ9 190 j := fun j hj => by
          rw [eψ, zs_ne (by omega), zs_other (by decide), p0]
          exact zwc_o (by omega) (by omega) (by omega) (by omega) (by omega) (by omega) (Or.inl (by omega))
        have q3 : ∀ a, a ≠ 190 → a ≠ 200 → ψ a = υ9 a := fun a ha hb => by rw [eψ, zs_other ha, zs_other hb, hυ8, zrow_ne ha]
        have q4 : ∀ j, j < 194 → ψ 190 (1746 + j) = zu (zwc (υ9 190) 1746 (zN A.D) (zkw b n0 A.q) A.op p 0 (-1) 0 (zTab 0)) 1746 (A.D 0 0 + 1) (1746 + j) := fun j _ => by
          rw [eψ, zs_row, zs_other (by decide), p0]
          rw [← p0, p1]
        have r4 := (zApp_r A.D (zkw b n0 A.q) A.op p).2.2.2.2.1
        have r0 := (zApp_r A.D (zkw b n0 A.q) A.op p).1
        have nA : zApp A.D 0 (zkw b n0 A.q) A.op p 0 0 = (zN A.D : Int) + 1 := by rw [r0, zu_eq]; omega
        have hW : zRrK b n0 σ0 (zN A.D) (zAm (znx b n0 A.q) (zApp A.D 0 (zkw b n0 A.q) A.op p) A.nm A.sn A.td A.op A.mk) ψ := by
          refine ⟨hE.1.rows q3 q2 ⟨by omega, by omega⟩, ⟨fun i hi => by rw [q3 198 (by decide) (by decide)]; exact hE.2.1.1 i hi, fun i hi hb => ?_⟩, fun y => absurd hm1 y, zApp_blk ⟨N12, by have := hG.1; omega⟩ h12.1 hE.2.2.2 q4⟩
          rw [q3 199 (by decide) (by decide)]
          have hb2 : zby (zApp A.D 0 (zkw b n0 A.q) A.op p 4 i) = true := hb
          rw [r4] at hb2
          by_cases z : i = zN A.D
          · rw [z, zu_eq] at hb2; exact absurd hb2 (by decide)
          · rw [zu_ne z] at hb2
            have hi2 : i < (zApp A.D 0 (zkw b n0 A.q) A.op p 0 0).toNat := hi
            exact hE.2.1.2 i (by show i < zN A.D; omega) hb2
        have w21 : 0 ≤ ψ 189 21 ∧ ψ 189 21 ≤ 7625597484987 := by
          rw [q3 189 (by decide) (by decide)]
          obtain ⟨_, k2, k3, k4, k5, k6⟩ := hk9
          rw [k5]
          split
          · rename_i y
            exact zw_r (by unfold zTt; rw [if_neg (by omega), if_pos y.2])
          · rw [ht.2.2.2.1 t2]; exact zw_r t2
        have t0 : ψ 200 (zN A.D) = 0 := by rw [eψ, zs_other (by decide), zs_eq]
        have hGa : zGood (zApp A.D 0 (zkw b n0 A.q) A.op p) 0 := hG.app (by omega) ck ⟨by omega, by omega⟩ pr
        refine g_cVV (st := _) (c_Md_readsName (A := (zAm (znx b n0 A.q) (zApp A.D 0 (zkw b n0 A.q) A.op p) A.nm A.sn A.td A.op A.mk)) (k := zN A.D) hn h0 hn0 hW (znx_r hq).2 hGa nA (by show -1 ≤ A.op ∧ A.op < zApp A.D 0 (zkw b n0 A.q) A.op p 0 0; omega) (fun i hi => hA.2.2.2.2.1 i hi) (by show zby (zApp A.D 0 (zkw b n0 A.q) A.op p 4 (zN A.D)) = false; rw [r4, zu_eq]; decide) ⟨by omega, by omega⟩ t0) k_Md_readsName l_Md_269 (by decide +kernel) (by omega) rfl rfl rfl rfl (Nat.le_of_ble_eq_true rfl) (by omega) ⟨Nat.le_refl _, Nat.le_refl _⟩ ?_
        rintro ω hN9
        have eC := zpC_g (b := b) (n0 := n0) ck c2
        rw [← hp] at eC
        have hN9 : zRg b n0 σ0 (zpN b n0 (zAm (znx b n0 A.q) (zApp A.D 0 (zkw b n0 A.q) A.op p) A.nm A.sn A.td A.op A.mk) (zN A.D)) ω := hN9
        rw [← eC] at hN9
        cases ez : zpC b n0 A with
        | inl f =>
          rw [ez] at hN9
          exact t_Md_readsClip104F hn hN9 (Or.inl ⟨f, Or.inl ez, hN9⟩) ⟨by omega, by omega⟩
        | inr C =>
          rw [ez] at hN9
          have e2 : zpN b n0 (zAm (znx b n0 A.q) (zApp A.D 0 (zkw b n0 A.q) A.op p) A.nm A.sn A.td A.op A.mk) (zN A.D) = .inr C := by rw [← eC]; exact ez
          obtain ⟨_, i2, _⟩ := zpN_inv (A := (zAm (znx b n0 A.q) (zApp A.D 0 (zkw b n0 A.q) A.op p) A.nm A.sn A.td A.op A.mk)) (znx_r hq).2 nA hGa (by show -1 ≤ A.op ∧ A.op < zApp A.D 0 (zkw b n0 A.q) A.op p 0 0; omega) (fun i hi => hA.2.2.2.2.1 i hi) e2
          have d0 : C.D = zApp A.D 0 (zkw b n0 A.q) A.op p := by rw [i2]
          have eN : zN C.D = zN A.D + 1 := by unfold zN; rw [d0, nA]; omega
          obtain ⟨a0, a1, a2, _⟩ := zApp_r A.D (zkw b n0 A.q) A.op p
          refine w_Md_readsClip104 hn h0 hn0 hA hv hs ck hd (by omega) ihr (n0 + 1) C ω ⟨C, 0, ez, rfl⟩ ?_ (by rw [i2]) (by rw [i2]) eN hN9.1 hN9.2.1 (by omega)
          refine ⟨by omega, fun j hj => ?_, by rw [d0, a2, zu_eq], by rw [d0, a1, zu_eq], fun j h1 h2 => absurd h2 (by omega)⟩
          rw [d0, a1, a2, zu_ne (by omega), zu_ne (by omega)]
          exact ⟨rfl, rfl⟩
      · have hres : zCq b n0 σ0 A τ := by
          rcases hS2 with ⟨_, e⟩ | ⟨f, e1, e2⟩
          · exfalso; rw [e] at h61; omega
          · exact Or.inl ⟨f, Or.inl e1, e2⟩
        refine g_retV (by decide +kernel) rfl ⟨Nat.le_refl _, Nat.le_refl _⟩ ?_
        exact hres
    · refine g_iload_n (i := 1) (by decide +kernel) rfl ?_
      refine g_if_lt (off := 12) (tgt := 47) (by decide +kernel) (by decide) ⟨by omega, by omega⟩ (fun h35 => ?_) (fun h35 => ?_)
      · have d0 : zdep (A.D 2) 12 A.op = 0 := by rw [show A.op = -1 by omega]; rfl
        refine g_iconst (a := 1) (by decide +kernel) ?_
        refine g_goto (off := 4) (tgt := 52) (by decide +kernel) (by decide) ?_
        refine g_bipush (a := 6) (by decide +kernel) (by decide) ?_
        refine g_cVV (st := _) (c_Md_wants hn ⟨by omega, by omega⟩ (fun _ => ⟨by omega, by omega⟩) ⟨by decide, by decide⟩ (by decide)) k_Md_wants l_Md_243 (by decide +kernel) (by omega) rfl rfl rfl rfl (Nat.le_of_ble_eq_true rfl) (by omega) ⟨Nat.le_refl _, Nat.le_refl _⟩ ?_
        rintro τ hτ
        have hS2 : (((0 ≤ zkw b n0 A.q ∧ zkw b n0 A.q ≤ 2) ∧ ¬ (12 ≤ A.D 0 0 ∨ 4 < zdep (A.D 2) 12 A.op)) ∧ τ = σ) ∨ ∃ f, zpC b n0 A = .inl f ∧ zRft σ0 f τ := by
          rcases hS with ⟨c, e⟩ | ⟨c, e⟩
          · by_cases c2 : 12 ≤ A.D 0 0 ∨ 4 < zdep (A.D 2) 12 A.op
            · first
                | (exfalso; omega)
                | (refine Or.inr ⟨_, zpC_6 c c2, ?_⟩
                   rw [hτ, if_pos rfl, e]
                   have g := hQ.fl (k := 6) (by decide)
                   rw [if_neg (by decide)] at g
                   exact g)
            · first
                | (exfalso; omega)
                | exact Or.inl ⟨⟨c, c2⟩, by rw [hτ, if_neg (by decide)]; exact e⟩
          · refine Or.inr ⟨_, zpC_n c, ?_⟩
            rw [e.wt hτ]
            exact e
        have t14 : 0 ≤ τ 189 14 ∧ τ 189 14 ≤ 8 := by
          rcases hS2 with ⟨_, e⟩ | ⟨f, _, e⟩
          · rw [e]; omega
          · have e1 := e.1; have e2 := e.2.1; omega
        refine g_aload_n (i := 0) (by decide +kernel) rfl ?_
        refine g_geti f_Md_230 (by decide +kernel) (by omega) rfl rfl ?_
        refine g_if_le (off := 4) (tgt := 65) (by decide +kernel) (by decide) ⟨by omega, by omega⟩ (fun h61 => ?_) (fun h61 => ?_)
        · rcases hS2 with ⟨⟨ck, c2⟩, e⟩ | ⟨f, _, e⟩
          case inr => exact absurd e.2.1 (by have := e.1; omega)
          obtain rfl := e.symm
          have t2 : zTt b n0 A.q = 2 := zkw_w ck.1
          have q0 : A.q < n0 := (zTt_w t2).1
          have e17 : σ 189 17 = (zTb b n0 A.q : Int) := by rw [ht.2.2.1, if_neg (by omega)]
          have N12 : zN A.D < 12 := by omega
          refine g_aload_n (i := 0) (by decide +kernel) rfl ?_
          refine g_cVV (st := _) (c_Md_reads hn (h0.bm hf) (h0.end hf) hn0 br.2 e17) k_Md_reads l_Md_247 (by decide +kernel) (by omega) rfl rfl rfl rfl (Nat.le_of_ble_eq_true rfl) (by omega) ⟨Nat.le_refl _, Nat.le_refl _⟩ ?_
          rintro υ9 hk9
          have hE := zRrK.nx hR hk9
          rw [c0]
          refine g_aload_n (i := 0) (by decide +kernel) rfl ?_
          refine g_iload (i := 4) (by decide +kernel) rfl ?_
          refine g_iload_n (i := 3) (by decide +kernel) rfl ?_
          refine g_iload_n (i := 1) (by decide +kernel) rfl ?_
          refine g_iload_n (i := 2) (by decide +kernel) rfl ?_
          refine g_cVV (st := _) (c_Md_begins (k := zN A.D) (x := zkw b n0 A.q) (y := A.op) (p := p) hn N12) k_Md_begins l_Md_266 (by decide +kernel) (by omega) rfl rfl rfl rfl (Nat.le_of_ble_eq_true rfl) (by omega) ⟨Nat.le_refl _, Nat.le_refl _⟩ ?_
          rintro υ8 hυ8
          refine g_aload_n (i := 0) (by decide +kernel) rfl ?_
          refine g_getr f_Md_82 (by decide +kernel) (by omega) rfl rfl ?_
          refine g_iload (i := 4) (by decide +kernel) rfl ?_
          refine g_iconst (a := 0) (by decide +kernel) ?_
          refine g_iast (j := zN A.D) (by decide +kernel) (by omega) rfl rfl (by omega) (by decide) ?_
          refine g_aload_n (i := 0) (by decide +kernel) rfl ?_
          refine g_getr f_Md_7 (by decide +kernel) (by omega) rfl rfl ?_
          refine g_sipush (a := 1746) (by decide +kernel) (by decide) ?_
          refine g_dup2 (by decide +kernel) rfl rfl ?_
          refine g_iald (j := 1746) (by decide +kernel) (by omega) rfl rfl (by omega) (by decide) ?_
          refine g_iconst (a := 1) (by decide +kernel) ?_
          refine g_iadd (by decide +kernel) ?_
          refine g_iast (j := 1746) (by decide +kernel) (by omega) rfl rfl (by omega) (by decide) ?_
          refine g_aload_n (i := 0) (by decide +kernel) rfl ?_
          refine g_iload (i := 4) (by decide +kernel) rfl ?_
          obtain ⟨ψ, eψ⟩ : ∃ ψ, ψ = zs (zs υ8 200 (zN A.D) 0) 190 1746 (zs υ8 200 (zN A.D) 0 190 1746 + 1) := ⟨_, rfl⟩
          refine g_eq (σ' := ψ) ?_ eψ.symm rfl rfl
          have e0 : υ9 190 1746 = A.D 0 0 := hE.2.2.2.1.1
          have p0 : υ8 190 = zwc (υ9 190) 1746 (zN A.D) (zkw b n0 A.q) A.op p 0 (-1) 0 (zTab 0) := by rw [hυ8, zrow_eq]
          have p1 : υ8 190 1746 = A.D 0 0 := by rw [p0, zwc_o (by omega) (by omega) (by omega) (by omega) (by omega) (by omega) (Or.inl (by omega))]; exact e0
          have q1 : ψ 190 1746 = A.D 0 0 + 1 := by rw [eψ, zs_eq, zs_other (by decide), p1]
          have q2 : ∀ j, j < 1746 → ψ 190 j = υ9 190 j := fun j hj => by
            rw [eψ, zs_ne (by omega), zs_other (by decide), p0]
            exact zwc_o (by omega) (by omega) (by omega) (by omega) (by omega) (by omega) (Or.inl (by omega))
          have q3 : ∀ a, a ≠ 190 → a ≠ 200 → ψ a = υ9 a := fun a ha hb => by rw [eψ, zs_other ha, zs_other hb, hυ8, zrow_ne ha]
          have q4 : ∀ j, j < 194 → ψ 190 (1746 + j) = zu (zwc (υ9 190) 1746 (zN A.D) (zkw b n0 A.q) A.op p 0 (-1) 0 (zTab 0)) 1746 (A.D 0 0 + 1) (1746 + j) := fun j _ => by
            rw [eψ, zs_row, zs_other (by decide), p0]
            rw [← p0, p1]
          have r4 := (zApp_r A.D (zkw b n0 A.q) A.op p).2.2.2.2.1
          have r0 := (zApp_r A.D (zkw b n0 A.q) A.op p).1
          have nA : zApp A.D 0 (zkw b n0 A.q) A.op p 0 0 = (zN A.D : Int) + 1 := by rw [r0, zu_eq]; omega
          have hW : zRrK b n0 σ0 (zN A.D) (zAm (znx b n0 A.q) (zApp A.D 0 (zkw b n0 A.q) A.op p) A.nm A.sn A.td A.op A.mk) ψ := by
            refine ⟨hE.1.rows q3 q2 ⟨by omega, by omega⟩, ⟨fun i hi => by rw [q3 198 (by decide) (by decide)]; exact hE.2.1.1 i hi, fun i hi hb => ?_⟩, fun y => absurd hm1 y, zApp_blk ⟨N12, by have := hG.1; omega⟩ h12.1 hE.2.2.2 q4⟩
            rw [q3 199 (by decide) (by decide)]
            have hb2 : zby (zApp A.D 0 (zkw b n0 A.q) A.op p 4 i) = true := hb
            rw [r4] at hb2
            by_cases z : i = zN A.D
            · rw [z, zu_eq] at hb2; exact absurd hb2 (by decide)
            · rw [zu_ne z] at hb2
              have hi2 : i < (zApp A.D 0 (zkw b n0 A.q) A.op p 0 0).toNat := hi
              exact hE.2.1.2 i (by show i < zN A.D; omega) hb2
          have w21 : 0 ≤ ψ 189 21 ∧ ψ 189 21 ≤ 7625597484987 := by
            rw [q3 189 (by decide) (by decide)]
            obtain ⟨_, k2, k3, k4, k5, k6⟩ := hk9
            rw [k5]
            split
            · rename_i y
              exact zw_r (by unfold zTt; rw [if_neg (by omega), if_pos y.2])
            · rw [ht.2.2.2.1 t2]; exact zw_r t2
          have t0 : ψ 200 (zN A.D) = 0 := by rw [eψ, zs_other (by decide), zs_eq]
          have hGa : zGood (zApp A.D 0 (zkw b n0 A.q) A.op p) 0 := hG.app (by omega) ck ⟨by omega, by omega⟩ pr
          refine g_cVV (st := _) (c_Md_readsName (A := (zAm (znx b n0 A.q) (zApp A.D 0 (zkw b n0 A.q) A.op p) A.nm A.sn A.td A.op A.mk)) (k := zN A.D) hn h0 hn0 hW (znx_r hq).2 hGa nA (by show -1 ≤ A.op ∧ A.op < zApp A.D 0 (zkw b n0 A.q) A.op p 0 0; omega) (fun i hi => hA.2.2.2.2.1 i hi) (by show zby (zApp A.D 0 (zkw b n0 A.q) A.op p 4 (zN A.D)) = false; rw [r4, zu_eq]; decide) ⟨by omega, by omega⟩ t0) k_Md_readsName l_Md_269 (by decide +kernel) (by omega) rfl rfl rfl rfl (Nat.le_of_ble_eq_true rfl) (by omega) ⟨Nat.le_refl _, Nat.le_refl _⟩ ?_
          rintro ω hN9
          have eC := zpC_g (b := b) (n0 := n0) ck c2
          rw [← hp] at eC
          have hN9 : zRg b n0 σ0 (zpN b n0 (zAm (znx b n0 A.q) (zApp A.D 0 (zkw b n0 A.q) A.op p) A.nm A.sn A.td A.op A.mk) (zN A.D)) ω := hN9
          rw [← eC] at hN9
          cases ez : zpC b n0 A with
          | inl f =>
            rw [ez] at hN9
            exact t_Md_readsClip104F hn hN9 (Or.inl ⟨f, Or.inl ez, hN9⟩) ⟨by omega, by omega⟩
          | inr C =>
            rw [ez] at hN9
            have e2 : zpN b n0 (zAm (znx b n0 A.q) (zApp A.D 0 (zkw b n0 A.q) A.op p) A.nm A.sn A.td A.op A.mk) (zN A.D) = .inr C := by rw [← eC]; exact ez
            obtain ⟨_, i2, _⟩ := zpN_inv (A := (zAm (znx b n0 A.q) (zApp A.D 0 (zkw b n0 A.q) A.op p) A.nm A.sn A.td A.op A.mk)) (znx_r hq).2 nA hGa (by show -1 ≤ A.op ∧ A.op < zApp A.D 0 (zkw b n0 A.q) A.op p 0 0; omega) (fun i hi => hA.2.2.2.2.1 i hi) e2
            have d0 : C.D = zApp A.D 0 (zkw b n0 A.q) A.op p := by rw [i2]
            have eN : zN C.D = zN A.D + 1 := by unfold zN; rw [d0, nA]; omega
            obtain ⟨a0, a1, a2, _⟩ := zApp_r A.D (zkw b n0 A.q) A.op p
            refine w_Md_readsClip104 hn h0 hn0 hA hv hs ck hd (by omega) ihr (n0 + 1) C ω ⟨C, 0, ez, rfl⟩ ?_ (by rw [i2]) (by rw [i2]) eN hN9.1 hN9.2.1 (by omega)
            refine ⟨by omega, fun j hj => ?_, by rw [d0, a2, zu_eq], by rw [d0, a1, zu_eq], fun j h1 h2 => absurd h2 (by omega)⟩
            rw [d0, a1, a2, zu_ne (by omega), zu_ne (by omega)]
            exact ⟨rfl, rfl⟩
        · have hres : zCq b n0 σ0 A τ := by
            rcases hS2 with ⟨_, e⟩ | ⟨f, e1, e2⟩
            · exfalso; rw [e] at h61; omega
            · exact Or.inl ⟨f, Or.inl e1, e2⟩
          refine g_retV (by decide +kernel) rfl ⟨Nat.le_refl _, Nat.le_refl _⟩ ?_
          exact hres
      · obtain ⟨o, eo⟩ : ∃ o : Nat, A.op = (o : Int) := ⟨A.op.toNat, by omega⟩
        have oN : o < zN (zneu A.D) := by rw [VN]; omega
        have ds := zdep_st V oN
        rw [V2] at ds
        refine g_aload_n (i := 0) (by decide +kernel) rfl ?_
        refine g_iload_n (i := 1) (by decide +kernel) rfl ?_
        rw [eo]
        refine g_cVI (st := _) (c_Md_depth (k := o) hn V E2 oN) k_Md_depth l_Md_263 (by decide +kernel) (by omega) rfl rfl rfl rfl (Nat.le_of_ble_eq_true rfl) (by omega) ⟨Nat.le_refl _, Nat.le_refl _⟩ ?_
        rintro a7 σ7 ⟨ea7, hσ7⟩
        obtain rfl := hσ7.symm
        rw [V2] at ea7
        have dl := zdep_le (A.D 2) 12 (A.D 2 o)
        have d1 : zdep (A.D 2) 12 A.op = zdep (A.D 2) 12 (A.D 2 o) + 1 := by rw [eo]; exact ds
        rw [← eo]
        refine g_iconst (a := 4) (by decide +kernel) ?_
        refine g_icmp_ge (off := 7) (tgt := 51) (by decide +kernel) (by decide) ⟨by omega, by omega⟩ ⟨by omega, by omega⟩ (fun h44 => ?_) (fun h44 => ?_)
        · refine g_iconst (a := 0) (by decide +kernel) ?_
          refine g_bipush (a := 6) (by decide +kernel) (by decide) ?_
          refine g_cVV (st := _) (c_Md_wants hn ⟨by omega, by omega⟩ (fun _ => ⟨by omega, by omega⟩) ⟨by decide, by decide⟩ (by decide)) k_Md_wants l_Md_243 (by decide +kernel) (by omega) rfl rfl rfl rfl (Nat.le_of_ble_eq_true rfl) (by omega) ⟨Nat.le_refl _, Nat.le_refl _⟩ ?_
          rintro τ hτ
          have hS2 : (((0 ≤ zkw b n0 A.q ∧ zkw b n0 A.q ≤ 2) ∧ ¬ (12 ≤ A.D 0 0 ∨ 4 < zdep (A.D 2) 12 A.op)) ∧ τ = σ) ∨ ∃ f, zpC b n0 A = .inl f ∧ zRft σ0 f τ := by
            rcases hS with ⟨c, e⟩ | ⟨c, e⟩
            · by_cases c2 : 12 ≤ A.D 0 0 ∨ 4 < zdep (A.D 2) 12 A.op
              · first
                  | (exfalso; omega)
                  | (refine Or.inr ⟨_, zpC_6 c c2, ?_⟩
                     rw [hτ, if_pos rfl, e]
                     have g := hQ.fl (k := 6) (by decide)
                     rw [if_neg (by decide)] at g
                     exact g)
              · first
                  | (exfalso; omega)
                  | exact Or.inl ⟨⟨c, c2⟩, by rw [hτ, if_neg (by decide)]; exact e⟩
            · refine Or.inr ⟨_, zpC_n c, ?_⟩
              rw [e.wt hτ]
              exact e
          have t14 : 0 ≤ τ 189 14 ∧ τ 189 14 ≤ 8 := by
            rcases hS2 with ⟨_, e⟩ | ⟨f, _, e⟩
            · rw [e]; omega
            · have e1 := e.1; have e2 := e.2.1; omega
          refine g_aload_n (i := 0) (by decide +kernel) rfl ?_
          refine g_geti f_Md_230 (by decide +kernel) (by omega) rfl rfl ?_
          refine g_if_le (off := 4) (tgt := 65) (by decide +kernel) (by decide) ⟨by omega, by omega⟩ (fun h61 => ?_) (fun h61 => ?_)
          · rcases hS2 with ⟨⟨ck, c2⟩, e⟩ | ⟨f, _, e⟩
            case inr => exact absurd e.2.1 (by have := e.1; omega)
            obtain rfl := e.symm
            have t2 : zTt b n0 A.q = 2 := zkw_w ck.1
            have q0 : A.q < n0 := (zTt_w t2).1
            have e17 : σ 189 17 = (zTb b n0 A.q : Int) := by rw [ht.2.2.1, if_neg (by omega)]
            have N12 : zN A.D < 12 := by omega
            refine g_aload_n (i := 0) (by decide +kernel) rfl ?_
            refine g_cVV (st := _) (c_Md_reads hn (h0.bm hf) (h0.end hf) hn0 br.2 e17) k_Md_reads l_Md_247 (by decide +kernel) (by omega) rfl rfl rfl rfl (Nat.le_of_ble_eq_true rfl) (by omega) ⟨Nat.le_refl _, Nat.le_refl _⟩ ?_
            rintro υ9 hk9
            have hE := zRrK.nx hR hk9
            rw [c0]
            refine g_aload_n (i := 0) (by decide +kernel) rfl ?_
            refine g_iload (i := 4) (by decide +kernel) rfl ?_
            refine g_iload_n (i := 3) (by decide +kernel) rfl ?_
            refine g_iload_n (i := 1) (by decide +kernel) rfl ?_
            refine g_iload_n (i := 2) (by decide +kernel) rfl ?_
            refine g_cVV (st := _) (c_Md_begins (k := zN A.D) (x := zkw b n0 A.q) (y := A.op) (p := p) hn N12) k_Md_begins l_Md_266 (by decide +kernel) (by omega) rfl rfl rfl rfl (Nat.le_of_ble_eq_true rfl) (by omega) ⟨Nat.le_refl _, Nat.le_refl _⟩ ?_
            rintro υ8 hυ8
            refine g_aload_n (i := 0) (by decide +kernel) rfl ?_
            refine g_getr f_Md_82 (by decide +kernel) (by omega) rfl rfl ?_
            refine g_iload (i := 4) (by decide +kernel) rfl ?_
            refine g_iconst (a := 0) (by decide +kernel) ?_
            refine g_iast (j := zN A.D) (by decide +kernel) (by omega) rfl rfl (by omega) (by decide) ?_
            refine g_aload_n (i := 0) (by decide +kernel) rfl ?_
            refine g_getr f_Md_7 (by decide +kernel) (by omega) rfl rfl ?_
            refine g_sipush (a := 1746) (by decide +kernel) (by decide) ?_
            refine g_dup2 (by decide +kernel) rfl rfl ?_
            refine g_iald (j := 1746) (by decide +kernel) (by omega) rfl rfl (by omega) (by decide) ?_
            refine g_iconst (a := 1) (by decide +kernel) ?_
            refine g_iadd (by decide +kernel) ?_
            refine g_iast (j := 1746) (by decide +kernel) (by omega) rfl rfl (by omega) (by decide) ?_
            refine g_aload_n (i := 0) (by decide +kernel) rfl ?_
            refine g_iload (i := 4) (by decide +kernel) rfl ?_
            obtain ⟨ψ, eψ⟩ : ∃ ψ, ψ = zs (zs υ8 200 (zN A.D) 0) 190 1746 (zs υ8 200 (zN A.D) 0 190 1746 + 1) := ⟨_, rfl⟩
            refine g_eq (σ' := ψ) ?_ eψ.symm rfl rfl
            have e0 : υ9 190 1746 = A.D 0 0 := hE.2.2.2.1.1
            have p0 : υ8 190 = zwc (υ9 190) 1746 (zN A.D) (zkw b n0 A.q) A.op p 0 (-1) 0 (zTab 0) := by rw [hυ8, zrow_eq]
            have p1 : υ8 190 1746 = A.D 0 0 := by rw [p0, zwc_o (by omega) (by omega) (by omega) (by omega) (by omega) (by omega) (Or.inl (by omega))]; exact e0
            have q1 : ψ 190 1746 = A.D 0 0 + 1 := by rw [eψ, zs_eq, zs_other (by decide), p1]
            have q2 : ∀ j, j < 1746 → ψ 190 j = υ9 190 j := fun j hj => by
              rw [eψ, zs_ne (by omega), zs_other (by decide), p0]
              exact zwc_o (by omega) (by omega) (by omega) (by omega) (by omega) (by omega) (Or.inl (by omega))
            have q3 : ∀ a, a ≠ 190 → a ≠ 200 → ψ a = υ9 a := fun a ha hb => by rw [eψ, zs_other ha, zs_other hb, hυ8, zrow_ne ha]
            have q4 : ∀ j, j < 194 → ψ 190 (1746 + j) = zu (zwc (υ9 190) 1746 (zN A.D) (zkw b n0 A.q) A.op p 0 (-1) 0 (zTab 0)) 1746 (A.D 0 0 + 1) (1746 + j) := fun j _ => by
              rw [eψ, zs_row, zs_other (by decide), p0]
              rw [← p0, p1]
            have r4 := (zApp_r A.D (zkw b n0 A.q) A.op p).2.2.2.2.1
            have r0 := (zApp_r A.D (zkw b n0 A.q) A.op p).1
            have nA : zApp A.D 0 (zkw b n0 A.q) A.op p 0 0 = (zN A.D : Int) + 1 := by rw [r0, zu_eq]; omega
            have hW : zRrK b n0 σ0 (zN A.D) (zAm (znx b n0 A.q) (zApp A.D 0 (zkw b n0 A.q) A.op p) A.nm A.sn A.td A.op A.mk) ψ := by
              refine ⟨hE.1.rows q3 q2 ⟨by omega, by omega⟩, ⟨fun i hi => by rw [q3 198 (by decide) (by decide)]; exact hE.2.1.1 i hi, fun i hi hb => ?_⟩, fun y => absurd hm1 y, zApp_blk ⟨N12, by have := hG.1; omega⟩ h12.1 hE.2.2.2 q4⟩
              rw [q3 199 (by decide) (by decide)]
              have hb2 : zby (zApp A.D 0 (zkw b n0 A.q) A.op p 4 i) = true := hb
              rw [r4] at hb2
              by_cases z : i = zN A.D
              · rw [z, zu_eq] at hb2; exact absurd hb2 (by decide)
              · rw [zu_ne z] at hb2
                have hi2 : i < (zApp A.D 0 (zkw b n0 A.q) A.op p 0 0).toNat := hi
                exact hE.2.1.2 i (by show i < zN A.D; omega) hb2
            have w21 : 0 ≤ ψ 189 21 ∧ ψ 189 21 ≤ 7625597484987 := by
              rw [q3 189 (by decide) (by decide)]
              obtain ⟨_, k2, k3, k4, k5, k6⟩ := hk9
              rw [k5]
              split
              · rename_i y
                exact zw_r (by unfold zTt; rw [if_neg (by omega), if_pos y.2])
              · rw [ht.2.2.2.1 t2]; exact zw_r t2
            have t0 : ψ 200 (zN A.D) = 0 := by rw [eψ, zs_other (by decide), zs_eq]
            have hGa : zGood (zApp A.D 0 (zkw b n0 A.q) A.op p) 0 := hG.app (by omega) ck ⟨by omega, by omega⟩ pr
            refine g_cVV (st := _) (c_Md_readsName (A := (zAm (znx b n0 A.q) (zApp A.D 0 (zkw b n0 A.q) A.op p) A.nm A.sn A.td A.op A.mk)) (k := zN A.D) hn h0 hn0 hW (znx_r hq).2 hGa nA (by show -1 ≤ A.op ∧ A.op < zApp A.D 0 (zkw b n0 A.q) A.op p 0 0; omega) (fun i hi => hA.2.2.2.2.1 i hi) (by show zby (zApp A.D 0 (zkw b n0 A.q) A.op p 4 (zN A.D)) = false; rw [r4, zu_eq]; decide) ⟨by omega, by omega⟩ t0) k_Md_readsName l_Md_269 (by decide +kernel) (by omega) rfl rfl rfl rfl (Nat.le_of_ble_eq_true rfl) (by omega) ⟨Nat.le_refl _, Nat.le_refl _⟩ ?_
            rintro ω hN9
            have eC := zpC_g (b := b) (n0 := n0) ck c2
            rw [← hp] at eC
            have hN9 : zRg b n0 σ0 (zpN b n0 (zAm (znx b n0 A.q) (zApp A.D 0 (zkw b n0 A.q) A.op p) A.nm A.sn A.td A.op A.mk) (zN A.D)) ω := hN9
            rw [← eC] at hN9
            cases ez : zpC b n0 A with
            | inl f =>
              rw [ez] at hN9
              exact t_Md_readsClip104F hn hN9 (Or.inl ⟨f, Or.inl ez, hN9⟩) ⟨by omega, by omega⟩
            | inr C =>
              rw [ez] at hN9
              have e2 : zpN b n0 (zAm (znx b n0 A.q) (zApp A.D 0 (zkw b n0 A.q) A.op p) A.nm A.sn A.td A.op A.mk) (zN A.D) = .inr C := by rw [← eC]; exact ez
              obtain ⟨_, i2, _⟩ := zpN_inv (A := (zAm (znx b n0 A.q) (zApp A.D 0 (zkw b n0 A.q) A.op p) A.nm A.sn A.td A.op A.mk)) (znx_r hq).2 nA hGa (by show -1 ≤ A.op ∧ A.op < zApp A.D 0 (zkw b n0 A.q) A.op p 0 0; omega) (fun i hi => hA.2.2.2.2.1 i hi) e2
              have d0 : C.D = zApp A.D 0 (zkw b n0 A.q) A.op p := by rw [i2]
              have eN : zN C.D = zN A.D + 1 := by unfold zN; rw [d0, nA]; omega
              obtain ⟨a0, a1, a2, _⟩ := zApp_r A.D (zkw b n0 A.q) A.op p
              refine w_Md_readsClip104 hn h0 hn0 hA hv hs ck hd (by omega) ihr (n0 + 1) C ω ⟨C, 0, ez, rfl⟩ ?_ (by rw [i2]) (by rw [i2]) eN hN9.1 hN9.2.1 (by omega)
              refine ⟨by omega, fun j hj => ?_, by rw [d0, a2, zu_eq], by rw [d0, a1, zu_eq], fun j h1 h2 => absurd h2 (by omega)⟩
              rw [d0, a1, a2, zu_ne (by omega), zu_ne (by omega)]
              exact ⟨rfl, rfl⟩
          · have hres : zCq b n0 σ0 A τ := by
              rcases hS2 with ⟨_, e⟩ | ⟨f, e1, e2⟩
              · exfalso; rw [e] at h61; omega
              · exact Or.inl ⟨f, Or.inl e1, e2⟩
            refine g_retV (by decide +kernel) rfl ⟨Nat.le_refl _, Nat.le_refl _⟩ ?_
            exact hres
        · refine g_iconst (a := 1) (by decide +kernel) ?_
          refine g_goto (off := 4) (tgt := 52) (by decide +kernel) (by decide) ?_
          refine g_bipush (a := 6) (by decide +kernel) (by decide) ?_
          refine g_cVV (st := _) (c_Md_wants hn ⟨by omega, by omega⟩ (fun _ => ⟨by omega, by omega⟩) ⟨by decide, by decide⟩ (by decide)) k_Md_wants l_Md_243 (by decide +kernel) (by omega) rfl rfl rfl rfl (Nat.le_of_ble_eq_true rfl) (by omega) ⟨Nat.le_refl _, Nat.le_refl _⟩ ?_
          rintro τ hτ
          have hS2 : (((0 ≤ zkw b n0 A.q ∧ zkw b n0 A.q ≤ 2) ∧ ¬ (12 ≤ A.D 0 0 ∨ 4 < zdep (A.D 2) 12 A.op)) ∧ τ = σ) ∨ ∃ f, zpC b n0 A = .inl f ∧ zRft σ0 f τ := by
            rcases hS with ⟨c, e⟩ | ⟨c, e⟩
            · by_cases c2 : 12 ≤ A.D 0 0 ∨ 4 < zdep (A.D 2) 12 A.op
              · first
                  | (exfalso; omega)
                  | (refine Or.inr ⟨_, zpC_6 c c2, ?_⟩
                     rw [hτ, if_pos rfl, e]
                     have g := hQ.fl (k := 6) (by decide)
                     rw [if_neg (by decide)] at g
                     exact g)
              · first
                  | (exfalso; omega)
                  | exact Or.inl ⟨⟨c, c2⟩, by rw [hτ, if_neg (by decide)]; exact e⟩
            · refine Or.inr ⟨_, zpC_n c, ?_⟩
              rw [e.wt hτ]
              exact e
          have t14 : 0 ≤ τ 189 14 ∧ τ 189 14 ≤ 8 := by
            rcases hS2 with ⟨_, e⟩ | ⟨f, _, e⟩
            · rw [e]; omega
            · have e1 := e.1; have e2 := e.2.1; omega
          refine g_aload_n (i := 0) (by decide +kernel) rfl ?_
          refine g_geti f_Md_230 (by decide +kernel) (by omega) rfl rfl ?_
          refine g_if_le (off := 4) (tgt := 65) (by decide +kernel) (by decide) ⟨by omega, by omega⟩ (fun h61 => ?_) (fun h61 => ?_)
          · rcases hS2 with ⟨⟨ck, c2⟩, e⟩ | ⟨f, _, e⟩
            case inr => exact absurd e.2.1 (by have := e.1; omega)
            obtain rfl := e.symm
            have t2 : zTt b n0 A.q = 2 := zkw_w ck.1
            have q0 : A.q < n0 := (zTt_w t2).1
            have e17 : σ 189 17 = (zTb b n0 A.q : Int) := by rw [ht.2.2.1, if_neg (by omega)]
            have N12 : zN A.D < 12 := by omega
            refine g_aload_n (i := 0) (by decide +kernel) rfl ?_
            refine g_cVV (st := _) (c_Md_reads hn (h0.bm hf) (h0.end hf) hn0 br.2 e17) k_Md_reads l_Md_247 (by decide +kernel) (by omega) rfl rfl rfl rfl (Nat.le_of_ble_eq_true rfl) (by omega) ⟨Nat.le_refl _, Nat.le_refl _⟩ ?_
            rintro υ9 hk9
            have hE := zRrK.nx hR hk9
            rw [c0]
            refine g_aload_n (i := 0) (by decide +kernel) rfl ?_
            refine g_iload (i := 4) (by decide +kernel) rfl ?_
            refine g_iload_n (i := 3) (by decide +kernel) rfl ?_
            refine g_iload_n (i := 1) (by decide +kernel) rfl ?_
            refine g_iload_n (i := 2) (by decide +kernel) rfl ?_
            refine g_cVV (st := _) (c_Md_begins (k := zN A.D) (x := zkw b n0 A.q) (y := A.op) (p := p) hn N12) k_Md_begins l_Md_266 (by decide +kernel) (by omega) rfl rfl rfl rfl (Nat.le_of_ble_eq_true rfl) (by omega) ⟨Nat.le_refl _, Nat.le_refl _⟩ ?_
            rintro υ8 hυ8
            refine g_aload_n (i := 0) (by decide +kernel) rfl ?_
            refine g_getr f_Md_82 (by decide +kernel) (by omega) rfl rfl ?_
            refine g_iload (i := 4) (by decide +kernel) rfl ?_
            refine g_iconst (a := 0) (by decide +kernel) ?_
            refine g_iast (j := zN A.D) (by decide +kernel) (by omega) rfl rfl (by omega) (by decide) ?_
            refine g_aload_n (i := 0) (by decide +kernel) rfl ?_
            refine g_getr f_Md_7 (by decide +kernel) (by omega) rfl rfl ?_
            refine g_sipush (a := 1746) (by decide +kernel) (by decide) ?_
            refine g_dup2 (by decide +kernel) rfl rfl ?_
            refine g_iald (j := 1746) (by decide +kernel) (by omega) rfl rfl (by omega) (by decide) ?_
            refine g_iconst (a := 1) (by decide +kernel) ?_
            refine g_iadd (by decide +kernel) ?_
            refine g_iast (j := 1746) (by decide +kernel) (by omega) rfl rfl (by omega) (by decide) ?_
            refine g_aload_n (i := 0) (by decide +kernel) rfl ?_
            refine g_iload (i := 4) (by decide +kernel) rfl ?_
            obtain ⟨ψ, eψ⟩ : ∃ ψ, ψ = zs (zs υ8 200 (zN A.D) 0) 190 1746 (zs υ8 200 (zN A.D) 0 190 1746 + 1) := ⟨_, rfl⟩
            refine g_eq (σ' := ψ) ?_ eψ.symm rfl rfl
            have e0 : υ9 190 1746 = A.D 0 0 := hE.2.2.2.1.1
            have p0 : υ8 190 = zwc (υ9 190) 1746 (zN A.D) (zkw b n0 A.q) A.op p 0 (-1) 0 (zTab 0) := by rw [hυ8, zrow_eq]
            have p1 : υ8 190 1746 = A.D 0 0 := by rw [p0, zwc_o (by omega) (by omega) (by omega) (by omega) (by omega) (by omega) (Or.inl (by omega))]; exact e0
            have q1 : ψ 190 1746 = A.D 0 0 + 1 := by rw [eψ, zs_eq, zs_other (by decide), p1]
            have q2 : ∀ j, j < 1746 → ψ 190 j = υ9 190 j := fun j hj => by
              rw [eψ, zs_ne (by omega), zs_other (by decide), p0]
              exact zwc_o (by omega) (by omega) (by omega) (by omega) (by omega) (by omega) (Or.inl (by omega))
            have q3 : ∀ a, a ≠ 190 → a ≠ 200 → ψ a = υ9 a := fun a ha hb => by rw [eψ, zs_other ha, zs_other hb, hυ8, zrow_ne ha]
            have q4 : ∀ j, j < 194 → ψ 190 (1746 + j) = zu (zwc (υ9 190) 1746 (zN A.D) (zkw b n0 A.q) A.op p 0 (-1) 0 (zTab 0)) 1746 (A.D 0 0 + 1) (1746 + j) := fun j _ => by
              rw [eψ, zs_row, zs_other (by decide), p0]
              rw [← p0, p1]
            have r4 := (zApp_r A.D (zkw b n0 A.q) A.op p).2.2.2.2.1
            have r0 := (zApp_r A.D (zkw b n0 A.q) A.op p).1
            have nA : zApp A.D 0 (zkw b n0 A.q) A.op p 0 0 = (zN A.D : Int) + 1 := by rw [r0, zu_eq]; omega
            have hW : zRrK b n0 σ0 (zN A.D) (zAm (znx b n0 A.q) (zApp A.D 0 (zkw b n0 A.q) A.op p) A.nm A.sn A.td A.op A.mk) ψ := by
              refine ⟨hE.1.rows q3 q2 ⟨by omega, by omega⟩, ⟨fun i hi => by rw [q3 198 (by decide) (by decide)]; exact hE.2.1.1 i hi, fun i hi hb => ?_⟩, fun y => absurd hm1 y, zApp_blk ⟨N12, by have := hG.1; omega⟩ h12.1 hE.2.2.2 q4⟩
              rw [q3 199 (by decide) (by decide)]
              have hb2 : zby (zApp A.D 0 (zkw b n0 A.q) A.op p 4 i) = true := hb
              rw [r4] at hb2
              by_cases z : i = zN A.D
              · rw [z, zu_eq] at hb2; exact absurd hb2 (by decide)
              · rw [zu_ne z] at hb2
                have hi2 : i < (zApp A.D 0 (zkw b n0 A.q) A.op p 0 0).toNat := hi
                exact hE.2.1.2 i (by show i < zN A.D; omega) hb2
            have w21 : 0 ≤ ψ 189 21 ∧ ψ 189 21 ≤ 7625597484987 := by
              rw [q3 189 (by decide) (by decide)]
              obtain ⟨_, k2, k3, k4, k5, k6⟩ := hk9
              rw [k5]
              split
              · rename_i y
                exact zw_r (by unfold zTt; rw [if_neg (by omega), if_pos y.2])
              · rw [ht.2.2.2.1 t2]; exact zw_r t2
            have t0 : ψ 200 (zN A.D) = 0 := by rw [eψ, zs_other (by decide), zs_eq]
            have hGa : zGood (zApp A.D 0 (zkw b n0 A.q) A.op p) 0 := hG.app (by omega) ck ⟨by omega, by omega⟩ pr
            refine g_cVV (st := _) (c_Md_readsName (A := (zAm (znx b n0 A.q) (zApp A.D 0 (zkw b n0 A.q) A.op p) A.nm A.sn A.td A.op A.mk)) (k := zN A.D) hn h0 hn0 hW (znx_r hq).2 hGa nA (by show -1 ≤ A.op ∧ A.op < zApp A.D 0 (zkw b n0 A.q) A.op p 0 0; omega) (fun i hi => hA.2.2.2.2.1 i hi) (by show zby (zApp A.D 0 (zkw b n0 A.q) A.op p 4 (zN A.D)) = false; rw [r4, zu_eq]; decide) ⟨by omega, by omega⟩ t0) k_Md_readsName l_Md_269 (by decide +kernel) (by omega) rfl rfl rfl rfl (Nat.le_of_ble_eq_true rfl) (by omega) ⟨Nat.le_refl _, Nat.le_refl _⟩ ?_
            rintro ω hN9
            have eC := zpC_g (b := b) (n0 := n0) ck c2
            rw [← hp] at eC
            have hN9 : zRg b n0 σ0 (zpN b n0 (zAm (znx b n0 A.q) (zApp A.D 0 (zkw b n0 A.q) A.op p) A.nm A.sn A.td A.op A.mk) (zN A.D)) ω := hN9
            rw [← eC] at hN9
            cases ez : zpC b n0 A with
            | inl f =>
              rw [ez] at hN9
              exact t_Md_readsClip104F hn hN9 (Or.inl ⟨f, Or.inl ez, hN9⟩) ⟨by omega, by omega⟩
            | inr C =>
              rw [ez] at hN9
              have e2 : zpN b n0 (zAm (znx b n0 A.q) (zApp A.D 0 (zkw b n0 A.q) A.op p) A.nm A.sn A.td A.op A.mk) (zN A.D) = .inr C := by rw [← eC]; exact ez
              obtain ⟨_, i2, _⟩ := zpN_inv (A := (zAm (znx b n0 A.q) (zApp A.D 0 (zkw b n0 A.q) A.op p) A.nm A.sn A.td A.op A.mk)) (znx_r hq).2 nA hGa (by show -1 ≤ A.op ∧ A.op < zApp A.D 0 (zkw b n0 A.q) A.op p 0 0; omega) (fun i hi => hA.2.2.2.2.1 i hi) e2
              have d0 : C.D = zApp A.D 0 (zkw b n0 A.q) A.op p := by rw [i2]
              have eN : zN C.D = zN A.D + 1 := by unfold zN; rw [d0, nA]; omega
              obtain ⟨a0, a1, a2, _⟩ := zApp_r A.D (zkw b n0 A.q) A.op p
              refine w_Md_readsClip104 hn h0 hn0 hA hv hs ck hd (by omega) ihr (n0 + 1) C ω ⟨C, 0, ez, rfl⟩ ?_ (by rw [i2]) (by rw [i2]) eN hN9.1 hN9.2.1 (by omega)
              refine ⟨by omega, fun j hj => ?_, by rw [d0, a2, zu_eq], by rw [d0, a1, zu_eq], fun j h1 h2 => absurd h2 (by omega)⟩
              rw [d0, a1, a2, zu_ne (by omega), zu_ne (by omega)]
              exact ⟨rfl, rfl⟩
          · have hres : zCq b n0 σ0 A τ := by
              rcases hS2 with ⟨_, e⟩ | ⟨f, e1, e2⟩
              · exfalso; rw [e] at h61; omega
              · exact Or.inl ⟨f, Or.inl e1, e2⟩
            refine g_retV (by decide +kernel) rfl ⟨Nat.le_refl _, Nat.le_refl _⟩ ?_
            exact hres
