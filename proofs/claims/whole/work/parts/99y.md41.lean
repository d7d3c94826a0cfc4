/-! READING in the reference: the course of a clip -/
def zPt (b : Nat → Int) (n0 : Nat) (A B : zAb) : Prop := ∃ C k, zpC b n0 A = .inr C ∧ zsteps b n0 k C B
def zPf (b : Nat → Int) (n0 : Nat) (A : zAb) (f : Int × Nat) : Prop := zpC b n0 A = .inl f ∨ ∃ B, zPt b n0 A B ∧ ¬ zSt0 B ∧ zstep b n0 B = .inl f
section PT
variable {b : Nat → Int} {n0 : Nat} {A B C : zAb}
theorem zPt.one (h : zPt b n0 A B) (hs : ¬ zSt0 B) (e : zstep b n0 B = .inr C) : zPt b n0 A C := by
  obtain ⟨D, k, h1, h2⟩ := h
  exact ⟨D, k + 1, h1, zsteps_tr k 1 D B C h2 ⟨hs, C, e, rfl⟩⟩
theorem zstep_C (hm : B.mk = -1) (h : ¬ (zTt b n0 B.q = 4 ∧ zTs b n0 B.q = 41)) : zstep b n0 B = zpC b n0 B := by
  unfold zstep
  rw [if_neg (fun y => y hm), if_neg h]
theorem zPt.sub (h : zPt b n0 A B) (hs : ¬ zSt0 B) (hm : B.mk = -1) (ht : ¬ (zTt b n0 B.q = 4 ∧ zTs b n0 B.q = 41)) (g : zPt b n0 B C) : zPt b n0 A C := by
  obtain ⟨D, k, h1, h2⟩ := h
  obtain ⟨E, l, g1, g2⟩ := g
  exact ⟨D, k + (l + 1), h1, zsteps_tr k (l + 1) D B C h2 ⟨hs, E, by rw [zstep_C hm ht]; exact g1, g2⟩⟩
theorem zPf.sub {f : Int × Nat} (h : zPt b n0 A B) (hs : ¬ zSt0 B) (hm : B.mk = -1) (ht : ¬ (zTt b n0 B.q = 4 ∧ zTs b n0 B.q = 41)) (g : zPf b n0 B f) : zPf b n0 A f := by
  rcases g with g | ⟨E, g1, g2, g3⟩
  · exact Or.inr ⟨B, h, hs, by rw [zstep_C hm ht]; exact g⟩
  · exact Or.inr ⟨E, h.sub hs hm ht g1, g2, g3⟩
theorem zPt.inv (h : zPt b n0 A B) (hA : zAi n0 A) (hv : zAv A) (hs : zN A.D = 0 ∨ A.op ≠ -1) : zAi n0 B ∧ zAv B := by
  obtain ⟨D, k, h1, h2⟩ := h
  obtain ⟨i1, i2⟩ := zpC_inv hA hv hs h1
  exact zsteps_inv k D B i1 i2 h2
/-- B has grown out of A by a clip of kind K and what is within it -/
def zGw (A B : zAb) (K : Int) : Prop := zN A.D < zN B.D ∧ (∀ j, j < zN A.D → B.D 1 j = A.D 1 j ∧ B.D 2 j = A.D 2 j) ∧ B.D 2 (zN A.D) = A.op ∧ B.D 1 (zN A.D) = K ∧ ∀ j, zN A.D < j → j < zN B.D → (zN A.D : Int) ≤ B.D 2 j
theorem zGw.same {K : Int} (h : zGw A B K) (e0 : C.D 0 = B.D 0) (e1 : C.D 1 = B.D 1) (e2 : C.D 2 = B.D 2) : zGw A C K := by
  have eN : zN C.D = zN B.D := by unfold zN; rw [e0]
  unfold zGw
  rw [eN, e1, e2]
  exact h
theorem zGw.tr {K L : Int} (h : zGw A B K) (ho : B.op = (zN A.D : Int)) (g : zGw B C L) : zGw A C K := by
  obtain ⟨h1, h2, h3, h4, h5⟩ := h
  obtain ⟨g1, g2, g3, g4, g5⟩ := g
  refine ⟨by omega, fun j hj => ⟨(g2 j (by omega)).1.trans (h2 j hj).1, (g2 j (by omega)).2.trans (h2 j hj).2⟩, (g2 _ h1).2.trans h3, (g2 _ h1).1.trans h4, fun j h6 h7 => ?_⟩
  rcases Nat.lt_trichotomy j (zN B.D) with z | z | z
  · rw [(g2 j z).2]; exact h5 j h6 z
  · rw [z, g3, ho]; exact Int.le_refl _
  · have := g5 j z h7; omega
theorem zcnt_beyond {p : Nat → Bool} {a : Nat} : ∀ m, a ≤ m → (∀ j, a ≤ j → j < m → p j = false) → zcnt p m = zcnt p a := by
  intro m
  induction m with
  | zero => intro h _; rw [show a = 0 by omega]
  | succ m ih =>
    intro h hp
    by_cases z : a = m + 1
    · rw [z]
    · show zcnt p m + (if p m = true then 1 else 0) = _
      rw [ih (by omega) (fun j h1 h2 => hp j h1 (by omega)), hp m (by omega) (by omega)]
      rfl
theorem zcnt_cgr {p q : Nat → Bool} : ∀ m, (∀ j, j < m → p j = q j) → zcnt p m = zcnt q m := by
  intro m
  induction m with
  | zero => intro _; rfl
  | succ m ih =>
    intro hp
    show zcnt p m + (if p m = true then 1 else 0) = zcnt q m + (if q m = true then 1 else 0)
    rw [ih (fun j h => hp j (by omega)), hp m (by omega)]
theorem zGw.cnt {L : Int} {o : Nat} (ho : B.op = (o : Int)) (hb : o < zN B.D) (g : zGw B C L) : zcnt (fun j => decide (C.D 2 j = (o : Int))) (zN C.D) = zcnt (fun j => decide (B.D 2 j = (o : Int))) (zN B.D) + 1 := by
  obtain ⟨g1, g2, g3, g4, g5⟩ := g
  rw [zcnt_beyond (a := zN B.D + 1) (zN C.D) (by omega) (fun j h1 h2 => decide_eq_false (by have := g5 j (by omega) h2; omega))]
  show zcnt _ (zN B.D) + (if decide (C.D 2 (zN B.D) = (o : Int)) = true then 1 else 0) = _
  rw [if_pos (decide_eq_true (by rw [g3, ho])), zcnt_cgr (zN B.D) (fun j hj => by rw [(g2 j hj).2])]
theorem zdep_cg {ar ar' : Nat → Int} {N : Nat} (hp : ∀ j, j < N → ar j < (j : Int) ∧ -1 ≤ ar j) (he : ∀ j, j < N → ar' j = ar j) : ∀ f x, -1 ≤ x → x < (N : Int) → zdep ar' f x = zdep ar f x := by
  intro f
  induction f with
  | zero => intro x _ _; rfl
  | succ f ih =>
    intro x h0 hx
    show (if x = -1 then 0 else zdep ar' f (ar' x.toNat) + 1) = (if x = -1 then 0 else zdep ar f (ar x.toNat) + 1)
    by_cases z : x = -1
    · rw [if_pos z, if_pos z]
    · have g := hp x.toNat (by omega)
      rw [if_neg z, if_neg z, he x.toNat (by omega), ih _ g.2 (by omega)]
/-- what steps keep -/
theorem zpT_keep {k : Nat} {h : Int} (e : zpT b n0 A k h = .inr C) : (C.op = A.op ∧ C.mk = A.mk) ∧ C.D 0 = A.D 0 ∧ C.D 1 = A.D 1 ∧ C.D 2 = A.D 2 := by
  unfold zpT at e
  by_cases c : zTt b n0 A.q = 3 ∧ 0 ≤ zTs b n0 A.q ∧ zTs b n0 A.q ≤ (if h = 3 then 3 else 999)
  · rw [if_neg (fun y => y c)] at e
    have e := Sum.inr.inj e
    rw [← e]
    refine ⟨⟨rfl, rfl⟩, ?_, ?_, ?_⟩
    · show zs (zs (zs A.D 4 k h) 5 k (-1)) 6 k (zTs b n0 A.q) 0 = A.D 0
      rw [zs_other (by decide), zs_other (by decide), zs_other (by decide)]
    · show zs (zs (zs A.D 4 k h) 5 k (-1)) 6 k (zTs b n0 A.q) 1 = A.D 1
      rw [zs_other (by decide), zs_other (by decide), zs_other (by decide)]
    · show zs (zs (zs A.D 4 k h) 5 k (-1)) 6 k (zTs b n0 A.q) 2 = A.D 2
      rw [zs_other (by decide), zs_other (by decide), zs_other (by decide)]
  · rw [if_pos c] at e; cases e
theorem zpM_keep {k w : Nat} (e : zpM b n0 A k w = .inr C) : (C.op = A.op ∧ C.mk = A.mk) ∧ C.D 0 = A.D 0 ∧ C.D 1 = A.D 1 ∧ C.D 2 = A.D 2 := by
  have z : ∀ (x : Nat) (v : Int) (r : Nat), r ≠ 7 → zs A.D 7 x v r = A.D r := fun x v r hr => zs_other hr
  unfold zpM at e
  split at e
  · have e := Sum.inr.inj e
    rw [← e]
    exact ⟨⟨rfl, rfl⟩, z (9 * k + w) 1 0 (by decide), z (9 * k + w) 1 1 (by decide), z (9 * k + w) 1 2 (by decide)⟩
  · split at e
    · cases e
    · have e := Sum.inr.inj e
      rw [← e]
      exact ⟨⟨rfl, rfl⟩, z (9 * k + w) (zTs b n0 (znx b n0 A.q)) 0 (by decide), z (9 * k + w) (zTs b n0 (znx b n0 A.q)) 1 (by decide), z (9 * k + w) (zTs b n0 (znx b n0 A.q)) 2 (by decide)⟩
theorem zpB_keep {k : Nat} {g : Int} (e : zpB b n0 A k g = .inr C) : (C.op = A.op ∧ C.mk = A.mk) ∧ C.D 0 = A.D 0 ∧ C.D 1 = A.D 1 ∧ C.D 2 = A.D 2 := by
  unfold zpB at e
  split at e
  · cases e
  · split at e
    · split at e
      · cases e
      · have g := zpT_keep e
        exact g
    · have g := zpT_keep e
      exact g
theorem zpK_keep {k : Nat} (e : zpK b n0 A k = .inr C) : (C.op = A.op ∧ C.mk = A.mk) ∧ C.D 0 = A.D 0 ∧ C.D 1 = A.D 1 ∧ C.D 2 = A.D 2 := by
  unfold zpK at e
  split at e
  · cases e
  · split at e
    · cases e
    · split at e
      · have g := zpM_keep e
        exact g
      · have g := zpB_keep e
        exact g
end PT
theorem c_Md_signF {G : zG} {n : Nat} {σ : zSt} (hn : 220 ≤ n) {σ0 : zSt} {f : Int × Nat} {s : Int} (hF : zRft σ0 f σ)  : Gm G y_Md_sign m_Md_sign 3 0 0 [vr G 189, vi s] n SH σ (zV n SH (fun σ' => σ' = σ)) := by
  refine g_enter (L := [(0, _), (1, _)]) (by decide) rfl rfl rfl (Nat.le_of_ble_eq_true rfl) (fun X => ?_)
  have f1 := hF.1
  have f2 := hF.2.1
  refine g_aload_n (i := 0) (by decide +kernel) rfl ?_
  refine g_aload_n (i := 0) (by decide +kernel) rfl ?_
  refine g_iload_n (i := 1) (by decide +kernel) rfl ?_
  refine g_cVI (st := _) (c_Md_isSignF hn ⟨by omega, by omega⟩ (by omega)) k_Md_isSign l_Md_239 (by decide +kernel) (by omega) rfl rfl rfl rfl (Nat.le_of_ble_eq_true rfl) (by decide) ⟨by decide, by decide⟩ ?_
  rintro a9 σ9 ⟨ea9, hσ9⟩
  obtain rfl := hσ9.symm
  subst ea9
  refine g_iconst (a := 2) (by decide +kernel) ?_
  refine g_cVV (st := _) (c_Md_wants hn ⟨by omega, by omega⟩ (fun y => absurd y (by omega)) ⟨by decide, by decide⟩ (by decide)) k_Md_wants l_Md_243 (by decide +kernel) (by omega) rfl rfl rfl rfl (Nat.le_of_ble_eq_true rfl) (by decide) ⟨by decide, by decide⟩ ?_
  rintro υ hυ
  obtain rfl := (hF.wt hυ).symm
  refine g_aload_n (i := 0) (by decide +kernel) rfl ?_
  refine g_geti f_Md_230 (by decide +kernel) (by omega) rfl rfl ?_
  refine g_if_ne (off := 7) (tgt := 21) (by decide +kernel) (by decide) ⟨by omega, by omega⟩ (fun h14 => ?_) (fun h14 => ?_)
  · refine g_retV (by decide +kernel) rfl ⟨by decide, by decide⟩ ?_
    rfl
  · exact absurd h14 (by omega)
theorem c_Md_sign {G : zG} {n : Nat} {σ : zSt} {b : Nat → Int} {n0 q : Nat} {σ0 : zSt} (hn : 220 ≤ n) (h0 : zR0 b n0 σ0) (hn0 : n0 ≤ 600) (hR : zRq0 b n0 σ0 q σ) (hq : q ≤ n0) {s : Int} (hs : s = 40 ∨ s = 41 ∨ s = 59)  : Gm G y_Md_sign m_Md_sign 3 0 0 [vr G 189, vi s] n SH σ (zV n SH (fun σ' => ((zTt b n0 q = 4 ∧ zTs b n0 q = s) ∧ zTkM σ σ' b n0 (zTb b n0 q)) ∨ (¬ (zTt b n0 q = 4 ∧ zTs b n0 q = s) ∧ zRft σ0 (zcs b n0 q, q) σ'))) := by
  refine g_enter (L := [(0, _), (1, _)]) (by decide) rfl rfl rfl (Nat.le_of_ble_eq_true rfl) (fun X => ?_)
  have hR9 := hR
  obtain ⟨h14, ht, hc, hf⟩ := hR
  have hw := h0.wd hf
  have tr := zTt_r (b := b) (n0 := n0) (q := q)
  have sr := zsrt_r (zTt b n0 q)
  have e18 := ht.2.1
  have br := zTb_r (b := b) hq
  have e17 := ht.2.2.1
  refine g_aload_n (i := 0) (by decide +kernel) rfl ?_
  refine g_aload_n (i := 0) (by decide +kernel) rfl ?_
  refine g_iload_n (i := 1) (by decide +kernel) rfl ?_
  refine g_cVI (st := _) (c_Md_isSign hn h0 hn0 hR9 hs) k_Md_isSign l_Md_239 (by decide +kernel) (by omega) rfl rfl rfl rfl (Nat.le_of_ble_eq_true rfl) (by decide) ⟨by decide, by decide⟩ ?_
  rintro a9 σ9 ⟨ha9, hσ9⟩
  obtain rfl := hσ9.symm
  refine g_iconst (a := 2) (by decide +kernel) ?_
  refine g_cVV (st := _) (c_Md_wants hn ⟨by omega, by omega⟩ (fun _ => ⟨by omega, by omega⟩) ⟨by decide, by decide⟩ (by omega)) k_Md_wants l_Md_243 (by decide +kernel) (by omega) rfl rfl rfl rfl (Nat.le_of_ble_eq_true rfl) (by decide) ⟨by decide, by decide⟩ ?_
  rintro υ hυ
  have hS : ((zTt b n0 q = 4 ∧ zTs b n0 q = s) ∧ υ = σ) ∨ (¬ (zTt b n0 q = 4 ∧ zTs b n0 q = s) ∧ zRft σ0 (zcs b n0 q, q) υ) := by
    rcases ha9 with ⟨c, e⟩ | ⟨c, e⟩
    · exact Or.inl ⟨c, by rw [hυ, if_neg (by omega)]⟩
    · refine Or.inr ⟨c, ?_⟩
      rw [hυ, if_pos e]
      have g := hR9.fl (k := 2) (by decide)
      rw [if_pos rfl] at g
      exact g
  have u14 : 0 ≤ υ 189 14 ∧ υ 189 14 ≤ 8 := by
    rcases hS with ⟨_, e⟩ | ⟨_, e⟩
    · rw [e]; omega
    · have e1 := e.1; have e2 := e.2.1; omega
  refine g_aload_n (i := 0) (by decide +kernel) rfl ?_
  refine g_geti f_Md_230 (by decide +kernel) (by omega) rfl rfl ?_
  refine g_if_ne (off := 7) (tgt := 21) (by decide +kernel) (by decide) ⟨by omega, by omega⟩ (fun h14 => ?_) (fun h14 => ?_)
  · rcases hS with ⟨c, e⟩ | ⟨c, e⟩
    case inl => exact absurd (by rw [e]; exact hR9.1) h14
    refine g_retV (by decide +kernel) rfl ⟨by decide, by decide⟩ ?_
    first
      | exact Or.inl ⟨c, hk9⟩
      | exact Or.inr ⟨c, e⟩
  · rcases hS with ⟨c, e⟩ | ⟨c, e⟩
    case inr => exact absurd e.2.1 (by have := e.1; omega)
    obtain rfl := e.symm
    have q9 := (zTt_s c.1).1
    have e17b : σ 189 17 = (zTb b n0 q : Int) := by rw [e17, if_neg (by omega)]
    refine g_aload_n (i := 0) (by decide +kernel) rfl ?_
    refine g_cVV (st := _) (c_Md_reads hn (h0.bm hf) (h0.end hf) hn0 br.2 e17b) k_Md_reads l_Md_247 (by decide +kernel) (by omega) rfl rfl rfl rfl (Nat.le_of_ble_eq_true rfl) (by decide) ⟨by decide, by decide⟩ ?_
    rintro υ9 hk9
    refine g_retV (by decide +kernel) rfl ⟨by decide, by decide⟩ ?_
    first
      | exact Or.inl ⟨c, hk9⟩
      | exact Or.inr ⟨c, e⟩
theorem t_Md_readsClip190F {G : zG} {X : zX} {n : Nat} {σ : zSt} {σ0 : zSt} {f : Int × Nat} {Q : zSt → Prop} {fu : Nat} (hn : 220 ≤ n) (hF : zRft σ0 f σ) (hQ : Q σ) {x1 x2 x3 x4 x5 : Int} (z3 : zr x3)  : Go G X m_Md_readsClip (6 + fu, 0, 0, 0, 0) n SH σ 190 [(0, vr G 189), (1, vi x1), (2, vi x2), (3, vi x3), (4, vi x4), (5, vi x5)] [] (zV n SH (fun σ' => Q σ')) := by
  have f1 := hF.1
  have f2 := hF.2.1
  refine g_aload_n (i := 0) (by decide +kernel) rfl ?_
  refine g_aload_n (i := 0) (by decide +kernel) rfl ?_
  refine g_bipush (a := 41) (by decide +kernel) (by decide) ?_
  refine g_cVI (st := _) (c_Md_isSignF hn ⟨by omega, by omega⟩ (by omega)) k_Md_isSign l_Md_239 (by decide +kernel) (by omega) rfl rfl rfl rfl (Nat.le_of_ble_eq_true rfl) (by omega) ⟨Nat.le_refl _, Nat.le_refl _⟩ ?_
  rintro a9 σ9 ⟨ea9, hσ9⟩
  obtain rfl := hσ9.symm
  subst ea9
  refine g_iconst (a := 2) (by decide +kernel) ?_
  refine g_cVV (st := _) (c_Md_wants hn ⟨by omega, by omega⟩ (fun y => absurd y (by omega)) ⟨by decide, by decide⟩ (by decide)) k_Md_wants l_Md_243 (by decide +kernel) (by omega) rfl rfl rfl rfl (Nat.le_of_ble_eq_true rfl) (by omega) ⟨Nat.le_refl _, Nat.le_refl _⟩ ?_
  rintro υ hυ
  obtain rfl := (hF.wt hυ).symm
  refine g_iload_n (i := 3) (by decide +kernel) rfl ?_
  refine g_iconst (a := 1) (by decide +kernel) ?_
  refine g_icmp_ne (off := 9) (tgt := 212) (by decide +kernel) (by decide) ⟨by omega, by omega⟩ ⟨by omega, by omega⟩ (fun h203 => ?_) (fun h203 => ?_)
  · refine g_aload_n (i := 0) (by decide +kernel) rfl ?_
    refine g_geti f_Md_230 (by decide +kernel) (by omega) rfl rfl ?_
    refine g_if_ne (off := 7) (tgt := 223) (by decide +kernel) (by decide) ⟨by omega, by omega⟩ (fun h216 => ?_) (fun h216 => ?_)
    · refine g_retV (by decide +kernel) rfl ⟨Nat.le_refl _, Nat.le_refl _⟩ ?_
      exact hQ
    · exact absurd h216 (by omega)
  · refine g_aload_n (i := 0) (by decide +kernel) rfl ?_
    refine g_iload (i := 4) (by decide +kernel) rfl ?_
    refine g_cVV (st := _) (c_Md_bindsF hn hF) k_Md_binds l_Md_281 (by decide +kernel) (by omega) rfl rfl rfl rfl (Nat.le_of_ble_eq_true rfl) (by omega) ⟨Nat.le_refl _, Nat.le_refl _⟩ ?_
    rintro υ hυ
    obtain rfl := hυ.symm
    refine g_aload_n (i := 0) (by decide +kernel) rfl ?_
    refine g_geti f_Md_230 (by decide +kernel) (by omega) rfl rfl ?_
    refine g_if_ne (off := 7) (tgt := 223) (by decide +kernel) (by decide) ⟨by omega, by omega⟩ (fun h216 => ?_) (fun h216 => ?_)
    · refine g_retV (by decide +kernel) rfl ⟨Nat.le_refl _, Nat.le_refl _⟩ ?_
      exact hQ
    · exact absurd h216 (by omega)
theorem t_Md_readsClip154F {G : zG} {X : zX} {n : Nat} {σ : zSt} {σ0 : zSt} {f : Int × Nat} {Q : zSt → Prop} {fu : Nat} (hn : 220 ≤ n) (hF : zRft σ0 f σ) (hQ : Q σ) {x1 x2 x3 x4 : Int} (z3 : zr x3)  : Go G X m_Md_readsClip (6 + fu, 0, 0, 0, 0) n SH σ 154 [(0, vr G 189), (1, vi x1), (2, vi x2), (3, vi x3), (4, vi x4)] [] (zV n SH (fun σ' => Q σ')) := by
  have f1 := hF.1
  have f2 := hF.2.1
  refine g_iconst (a := 0) (by decide +kernel) ?_
  refine g_istore (i := 5) (L' := [(0, _), (1, _), (2, _), (3, _), (4, _), (5, _)]) (by decide +kernel) rfl rfl ?_
  refine g_aload_n (i := 0) (by decide +kernel) rfl ?_
  refine g_geti f_Md_230 (by decide +kernel) (by omega) rfl rfl ?_
  refine g_if_ne (off := 29) (tgt := 190) (by decide +kernel) (by decide) ⟨by omega, by omega⟩ (fun h161 => ?_) (fun h161 => ?_)
  · exact t_Md_readsClip190F hn hF hQ z3
  · exact absurd h161 (by omega)
theorem t_Md_readsClip157F {G : zG} {X : zX} {n : Nat} {σ : zSt} {σ0 : zSt} {f : Int × Nat} {Q : zSt → Prop} {fu : Nat} (hn : 220 ≤ n) (hF : zRft σ0 f σ) (hQ : Q σ) {x1 x2 x3 x4 x5 : Int} (z3 : zr x3)  : Go G X m_Md_readsClip (6 + fu, 0, 0, 0, 0) n SH σ 157 [(0, vr G 189), (1, vi x1), (2, vi x2), (3, vi x3), (4, vi x4), (5, vi x5)] [] (zV n SH (fun σ' => Q σ')) := by
  have f1 := hF.1
  have f2 := hF.2.1
  refine g_aload_n (i := 0) (by decide +kernel) rfl ?_
  refine g_geti f_Md_230 (by decide +kernel) (by omega) rfl rfl ?_
  refine g_if_ne (off := 29) (tgt := 190) (by decide +kernel) (by decide) ⟨by omega, by omega⟩ (fun h161 => ?_) (fun h161 => ?_)
  · exact t_Md_readsClip190F hn hF hQ z3
  · exact absurd h161 (by omega)
theorem t_Md_readsClip104F {G : zG} {X : zX} {n : Nat} {σ : zSt} {σ0 : zSt} {f : Int × Nat} {Q : zSt → Prop} {fu : Nat} (hn : 220 ≤ n) (hF : zRft σ0 f σ) (hQ : Q σ) {x1 x2 x3 x4 : Int} (z3 : zr x3)  : Go G X m_Md_readsClip (6 + fu, 0, 0, 0, 0) n SH σ 104 [(0, vr G 189), (1, vi x1), (2, vi x2), (3, vi x3), (4, vi x4)] [] (zV n SH (fun σ' => Q σ')) := by
  have f1 := hF.1
  have f2 := hF.2.1
  refine g_aload_n (i := 0) (by decide +kernel) rfl ?_
  refine g_geti f_Md_230 (by decide +kernel) (by omega) rfl rfl ?_
  refine g_if_ne (off := 29) (tgt := 137) (by decide +kernel) (by decide) ⟨by omega, by omega⟩ (fun h108 => ?_) (fun h108 => ?_)
  · refine g_iload_n (i := 3) (by decide +kernel) rfl ?_
    refine g_if_ne (off := 10) (tgt := 148) (by decide +kernel) (by decide) ⟨by omega, by omega⟩ (fun h138 => ?_) (fun h138 => ?_)
    · refine g_aload_n (i := 0) (by decide +kernel) rfl ?_
      refine g_bipush (a := 40) (by decide +kernel) (by decide) ?_
      refine g_cVV (st := _) (c_Md_signF hn hF) k_Md_sign l_Md_275 (by decide +kernel) (by omega) rfl rfl rfl rfl (Nat.le_of_ble_eq_true rfl) (by omega) ⟨Nat.le_refl _, Nat.le_refl _⟩ ?_
      rintro υ hυ
      obtain rfl := hυ.symm
      exact t_Md_readsClip154F hn hF hQ z3
    · refine g_aload_n (i := 0) (by decide +kernel) rfl ?_
      refine g_bipush (a := 59) (by decide +kernel) (by decide) ?_
      refine g_cVV (st := _) (c_Md_signF hn hF) k_Md_sign l_Md_275 (by decide +kernel) (by omega) rfl rfl rfl rfl (Nat.le_of_ble_eq_true rfl) (by omega) ⟨Nat.le_refl _, Nat.le_refl _⟩ ?_
      rintro υ hυ
      obtain rfl := hυ.symm
      refine g_retV (by decide +kernel) rfl ⟨Nat.le_refl _, Nat.le_refl _⟩ ?_
      exact hQ
  · exact absurd h108 (by omega)
