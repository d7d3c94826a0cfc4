/-! READING: closing, and one step of the machine -/
theorem zbd_cl {A : zAb} (h : ¬ zbad A) : ∀ j, j < zN (zAD A (zbd A (zN A.D))).D → (zAD A (zbd A (zN A.D))).D 2 j = A.op → zby ((zAD A (zbd A (zN A.D))).D 4 j) = true → 0 ≤ (zAD A (zbd A (zN A.D))).D 5 j ∧ ((zAD A (zbd A (zN A.D))).D 5 j).toNat < zN (zAD A (zbd A (zN A.D))).D ∧ (zAD A (zbd A (zN A.D))).D 2 ((zAD A (zbd A (zN A.D))).D 5 j).toNat = A.op := by
  intro j hj h2 h4
  have hj : j < (zbd A (zN A.D) 0 0).toNat := hj
  have h2 : zbd A (zN A.D) 2 j = A.op := h2
  have h4 : zby (zbd A (zN A.D) 4 j) = true := h4
  show 0 ≤ zbd A (zN A.D) 5 j ∧ (zbd A (zN A.D) 5 j).toNat < (zbd A (zN A.D) 0 0).toNat ∧ zbd A (zN A.D) 2 (zbd A (zN A.D) 5 j).toNat = A.op
  rw [zbd_oth A _ (by decide)] at hj h2 h4
  rw [zbd_oth A _ (show (0 : Nat) ≠ 5 by decide), zbd_oth A _ (show (2 : Nat) ≠ 5 by decide), zbd_5, if_pos ⟨hj, h2, h4⟩]
  have hne : znmd A (A.sn j) ≠ -1 := fun e => h ⟨j, hj, h2, h4, Or.inl e⟩
  unfold znmd at hne ⊢
  rcases zfst_spec (p := fun i => decide (A.D 2 i = A.op ∧ A.nm i = A.sn j)) (n := zN A.D) with e | ⟨i, e, hi, hp, -⟩
  · exact absurd e.1 hne
  · rw [e]
    have := of_decide_eq_true hp
    exact ⟨by omega, by show ((i : Int)).toNat < zN A.D; omega, by rw [show ((i : Int)).toNat = i by omega]; exact this.1⟩
theorem zAi.bd {n0 i : Nat} {A : zAb} (hA : zAi n0 A) : zAi n0 (zAD A (zbd A i)) := by
  refine ⟨hA.1, zbd_good hA.2.1, ?_, ?_, ?_, hA.2.2.2.2.2⟩
  · show -1 ≤ A.op ∧ A.op < zbd A i 0 0; rw [zbd_oth A i (by decide)]; exact hA.2.2.1
  · show -1 ≤ A.mk ∧ A.mk < zbd A i 0 0; rw [zbd_oth A i (by decide)]; exact hA.2.2.2.1
  · intro j hj
    have hj : j < (zbd A i 0 0).toNat := hj
    rw [zbd_oth A i (by decide)] at hj; exact hA.2.2.2.2.1 j hj
theorem zpar_bd {A : zAb} {i : Nat} (hpar : ∀ j, j < zN A.D → A.D 2 j < (j : Int)) : ∀ j, j < zN (zAD A (zbd A i)).D → (zAD A (zbd A i)).D 2 j < (j : Int) := by
  intro j hj
  have hj : j < (zbd A i 0 0).toNat := hj
  rw [zbd_oth A i (by decide)] at hj
  show zbd A i 2 j < (j : Int)
  rw [zbd_oth A i (by decide)]; exact hpar j hj
/-- another clip is open -/
theorem zRc.opn {b : Nat → Int} {n0 : Nat} {σ0 σ : zSt} {A : zAb} {v : Int} (h : zRc b n0 σ0 A σ) : zRc b n0 σ0 (zAm A.q A.D A.nm A.sn A.td v A.mk) (zs σ 179 10 v) := h.upd rfl (fun j h1 _ _ => by rw [zs_ne (by omega)]) (fun a _ h2 _ _ => by rw [zs_other h2]) (by rw [zs_eq]) (by rw [zs_ne (by decide)]; exact h.2.2.1.2.1) (fun y => by rw [zs_ne (by decide)]; exact h.2.2.1.2.2.1 y) (by rw [zs_other (by decide)]; exact h.2.2.2.1.1) (by rw [zs_other (by decide)]; exact h.2.2.2.1.2) (h.2.2.2.2.1.oth (fun r hr => by rw [zs_other (by omega)]))
theorem c_Rd_closeClip {G : zG} {n : Nat} {σ σ0 : zSt} {b : Nat → Int} {n0 : Nat} {A : zAb} (hn : 189 ≤ n) (hb : zBt b) (hn0 : n0 ≤ 600) (hR : zRc b n0 σ0 A σ) {o : Nat} (hA : zAi n0 A) (ho : A.op = (o : Int)) (hpar : ∀ j, j < zN A.D → A.D 2 j < (j : Int))  : Gm G y_Rd_closeClip m_Rd_closeClip 3 0 0 [vr G 179] n SH σ (zI n SH (fun a σ' => zRo b n0 σ0 (zpX b n0 A) a σ')) := by
  refine g_enter (L := [(0, _)]) (by decide) rfl rfl rfl (Nat.le_of_ble_eq_true rfl) (fun X => ?_)
  have hq := hA.1
  have hG := hA.2.1
  have ob := hA.2.2.1
  have hN : zN A.D = (A.D 0 0).toNat := rfl
  have hD12 : A.D 0 0 ≤ 12 := hG.1.2.1
  obtain ⟨⟨a1, a2⟩, ⟨a3, a3b, a3c, a3d⟩, ⟨a4, a5, a6, a7, a8⟩, ⟨a9, a10⟩, a11, a12⟩ := id hR
  have e0 : σ 11 0 = A.D 0 0 := by rw [show σ 11 = A.D 0 from a11 0 (by decide)]
  have e2 : σ 13 = A.D 2 := a11 2 (by decide)
  have e4 : σ 15 = A.D 4 := a11 4 (by decide)
  have e5 : σ 16 = A.D 5 := a11 5 (by decide)
  have a4o : σ 179 10 = (o : Int) := by rw [a4]; exact ho
  have e1 : σ 12 = A.D 1 := a11 1 (by decide)
  have eo : A.op.toNat = o := by omega
  have oN : o < zN A.D := by omega
  have e1o : σ 12 o = A.D 1 o := by rw [e1]
  have r1 : 0 ≤ A.D 1 o ∧ A.D 1 o ≤ 2 := (hG.2.1 o (by omega)).1
  have po := hpar o oN
  have g2o : -1 ≤ A.D 2 o ∧ A.D 2 o ≤ 11 := (hG.2.1 o (by omega)).2.1
  have J43 : ∀ (D : zSt) (υ : zSt), zRc b n0 σ0 (zAD A D) υ → zAi n0 (zAD A D) → D 2 = A.D 2 → zpX b n0 A = .inr (zAm (znx b n0 A.q) D A.nm A.sn A.td (A.D 2 A.op.toNat) A.mk) → Go G X m_Rd_closeClip (3, 0, 0, 0, 0) n SH υ 43 [(0, vr G 179)] [] (zI n SH (fun a σ' => zRo b n0 σ0 (zpX b n0 A) a σ')) := by
    intro D υ hU hAU eD eX
    have u10 : υ 179 10 = (o : Int) := by rw [hU.2.2.1.1]; exact ho
    have u13 : υ 13 o = A.D 2 o := by rw [show υ 13 = D 2 from hU.2.2.2.2.1 2 (by decide), eD]
    have u0 : (zAD A D).D 0 0 = D 0 0 := rfl
    have ob2 := hAU.2.2.1
    refine g_aload_n (i := 0) (by decide +kernel) rfl ?_
    refine g_aload_n (i := 0) (by decide +kernel) rfl ?_
    refine g_getr f_Rd_22 (by decide +kernel) (by omega) rfl rfl ?_
    refine g_getr f_Rd_166 (by decide +kernel) (by omega) rfl rfl ?_
    refine g_aload_n (i := 0) (by decide +kernel) rfl ?_
    refine g_geti f_Rd_37 (by decide +kernel) (by omega) rfl rfl ?_
    refine g_iald (j := o) (by decide +kernel) (by omega) rfl u10 (by omega) (by decide) ?_
    refine g_puti f_Rd_37 (by decide +kernel) (by omega) rfl rfl ?_
    refine g_aload_n (i := 0) (by decide +kernel) rfl ?_
    rw [u13]
    have hV := hU.opn (v := A.D 2 o)
    refine g_cVV (st := _) (c_Rd_takeToken (n0 := n0) (p := zTb b n0 (A.q)) hn (by rw [hV.1.2]; exact hb) hV.1.1 hn0 (zTb_r hq).2 hV.2.1.2.2.1) k_Rd_takeToken l_Rd_54 (by decide +kernel) (by omega) rfl rfl rfl rfl (Nat.le_of_ble_eq_true rfl) (by decide) ⟨by decide, by decide⟩ ?_
    rintro υ9 hk9
    have hF := hV.next hk9
    refine g_iconst (a := 1) (by decide +kernel) ?_
    refine g_retI (by decide +kernel) rfl (Or.inr ⟨rfl, by omega⟩) ⟨by decide, by decide⟩ ?_
    show zRo _ _ _ _ _ _
    rw [eX, eo]
    refine ⟨rfl, hF, (znx_r hq).2, hAU.2.1, ⟨by show -1 ≤ A.D 2 o; omega, ?_⟩, hAU.2.2.2.1, hAU.2.2.2.2.1, hAU.2.2.2.2.2⟩
    show A.D 2 o < D 0 0
    have ob3 : A.op < D 0 0 := ob2.2
    omega
  refine g_aload_n (i := 0) (by decide +kernel) rfl ?_
  refine g_getr f_Rd_22 (by decide +kernel) (by omega) rfl rfl ?_
  refine g_getr f_Rd_124 (by decide +kernel) (by omega) rfl rfl ?_
  refine g_aload_n (i := 0) (by decide +kernel) rfl ?_
  refine g_geti f_Rd_37 (by decide +kernel) (by omega) rfl rfl ?_
  refine g_iald (j := o) (by decide +kernel) (by omega) rfl a4o (by omega) (by decide) ?_
  refine g_iconst (a := 1) (by decide +kernel) ?_
  refine g_icmp_ne (off := 30) (tgt := 43) (by decide +kernel) (by decide) ⟨by omega, by omega⟩ ⟨by omega, by omega⟩ (fun h13 => ?_) (fun h13 => ?_)
  · first
      | (have hz : A.D 1 o ≠ 1 := by omega
         refine J43 A.D _ hR hA rfl ?_
         unfold zpX
         rw [eo, if_neg hz])
      | (have hz : A.D 1 o = 1 := by omega
         have hr1 := hr.resolve_left (fun y => by have := y.1; omega)
         refine J43 _ _ hT hA.bd (zbd_oth A _ (by decide)) ?_
         unfold zpX
         rw [eo, if_pos hz, if_neg nb, if_neg hr1.2])
  · refine g_aload_n (i := 0) (by decide +kernel) rfl ?_
    refine g_cVI (st := _) (c_Rd_findOthers hn hb hn0 hR hA ho hpar) k_Rd_findOthers l_Rd_160 (by decide +kernel) (by omega) rfl rfl rfl rfl (Nat.le_of_ble_eq_true rfl) (by decide) ⟨by decide, by decide⟩ ?_
    rintro a8_ σ8 hf
    have ea8 : a8_ = 0 ∨ a8_ = 1 := by
      rcases hf with y | y
      · exact Or.inr y.1
      · exact Or.inl y.1
    refine g_if_ne (off := 9) (tgt := 29) (by decide +kernel) (by decide) ⟨by omega, by omega⟩ (fun h20 => ?_) (fun h20 => ?_)
    · have hf1 := hf.resolve_right (fun y => h20 y.1)
      obtain ⟨-, nb, hT⟩ := hf1
      refine g_aload_n (i := 0) (by decide +kernel) rfl ?_
      refine g_cVI (st := _) (c_Rd_hasRing hn hb hn0 hT hA.bd ho (zpar_bd hpar) (zbd_cl nb)) k_Rd_hasRing l_Rd_163 (by decide +kernel) (by omega) rfl rfl rfl rfl (Nat.le_of_ble_eq_true rfl) (by decide) ⟨by decide, by decide⟩ ?_
      rintro a7_ σ7 ⟨hr, hσ7⟩
      obtain rfl := hσ7.symm
      have ea7 : a7_ = 0 ∨ a7_ = 1 := by
        rcases hr with y | y
        · exact Or.inr y.1
        · exact Or.inl y.1
      refine g_if_eq (off := 10) (tgt := 43) (by decide +kernel) (by decide) ⟨by omega, by omega⟩ (fun h33 => ?_) (fun h33 => ?_)
      · first
          | (have hz : A.D 1 o ≠ 1 := by omega
             refine J43 A.D _ hR hA rfl ?_
             unfold zpX
             rw [eo, if_neg hz])
          | (have hz : A.D 1 o = 1 := by omega
             have hr1 := hr.resolve_left (fun y => by have := y.1; omega)
             refine J43 _ _ hT hA.bd (zbd_oth A _ (by decide)) ?_
             unfold zpX
             rw [eo, if_pos hz, if_neg nb, if_neg hr1.2])
      · refine g_aload_n (i := 0) (by decide +kernel) rfl ?_
        refine g_bipush (a := 7) (by decide +kernel) (by decide) ?_
        refine g_cVI (st := _) (c_Rd_failWith hn) k_Rd_failWith l_Rd_93 (by decide +kernel) (by omega) rfl rfl rfl rfl (Nat.le_of_ble_eq_true rfl) (by decide) ⟨by decide, by decide⟩ ?_
        rintro a9_ σ9 ⟨ea9, hσ9⟩
        subst ea9
        subst hσ9
        refine g_retI (by decide +kernel) rfl (Or.inr ⟨rfl, by omega⟩) ⟨by decide, by decide⟩ ?_
        show zRo _ _ _ _ _ _
        have hz : A.D 1 o = 1 := by omega
        have hr1 := hr.resolve_right (fun y => h33 y.1)
        unfold zpX
        rw [eo, if_pos hz, if_neg nb, if_pos hr1.2]
        exact hT.fault (zbd_good hG) (by decide)
    · have hf1 := hf.resolve_left (fun y => by have := y.1; omega)
      obtain ⟨-, nb, i9, hT⟩ := hf1
      have t4 : σ8 179 4 = zTt b n0 A.q := hT.2.1.2.1
      refine g_aload_n (i := 0) (by decide +kernel) rfl ?_
      refine g_iconst (a := 3) (by decide +kernel) ?_
      refine g_cVI (st := _) (c_Rd_failWith hn) k_Rd_failWith l_Rd_93 (by decide +kernel) (by omega) rfl rfl rfl rfl (Nat.le_of_ble_eq_true rfl) (by decide) ⟨by decide, by decide⟩ ?_
      rintro a9_ σ9 ⟨ea9, hσ9⟩
      subst ea9
      subst hσ9
      refine g_retI (by decide +kernel) rfl (Or.inr ⟨rfl, by omega⟩) ⟨by decide, by decide⟩ ?_
      show zRo _ _ _ _ _ _
      have hz : A.D 1 o = 1 := by omega
      unfold zpX
      rw [eo, if_pos hz, if_pos nb]
      exact hT.fault (zbd_good hG) (by decide)
/-- nothing is open -/
def zSt0 (A : zAb) : Prop := A.mk = -1 ∧ A.op = -1
/-- one step -/
noncomputable def zstep (b : Nat → Int) (n0 : Nat) (A : zAb) : (Int × Nat) ⊕ zAb := if A.mk ≠ -1 then (if zTt b n0 A.q = 2 then zpK b n0 A A.mk.toNat else zpS b n0 A A.mk.toNat) else if zTt b n0 A.q = 4 ∧ zTs b n0 A.q = 41 then zpX b n0 A else zpC b n0 A
section PRG
variable {b : Nat → Int} {n0 : Nat} {A C : zAb}
theorem zkw_w (h : 0 ≤ zkw b n0 A.q) : zTt b n0 A.q = 2 := by
  unfold zkw at h
  by_cases q : zTt b n0 A.q = 2 ∧ (zTb b n0 A.q : Int) - A.q ≤ 8
  · exact q.1
  · rw [if_neg q] at h; omega
theorem zlt2 (h : zTt b n0 A.q = 2) : A.q < n0 := (zTt_w h).1
theorem zpN_q {k : Nat} (h : zpN b n0 A k = .inr C) : A.q < C.q := by
  unfold zpN at h
  split at h
  · cases h
  · rename_i h1
    split at h
    · cases h
    · cases h
      have h1 : zisn b n0 A.q := Classical.byContradiction h1
      exact znx_lt (zTt_w h1.1).1
theorem zpC_q (hq : A.q ≤ n0) (h : zpC b n0 A = .inr C) : A.q < C.q := by
  unfold zpC at h
  split at h
  · cases h
  · rename_i h1
    split at h
    · cases h
    · have g := zpN_q h
      have z := zkw_w (b := b) (n0 := n0) (A := A) (by omega)
      have y := znx_lt (b := b) (zTt_w z).1
      have g : znx b n0 A.q < C.q := g
      omega
theorem zpS_q {k : Nat} (h : zpS b n0 A k = .inr C) : A.q < C.q := by
  unfold zpS at h
  by_cases c : zTt b n0 A.q = 4 ∧ zTs b n0 A.q = (if A.D 1 k = 0 then 59 else 40)
  · rw [if_neg (fun y => y c)] at h
    have e := Sum.inr.inj h
    rw [← e]
    exact znx_lt (zTt_s c.1).1
  · rw [if_pos c] at h; cases h
theorem zpX_q (h4 : zTt b n0 A.q = 4) (h : zpX b n0 A = .inr C) : A.q < C.q := by
  have y := znx_lt (b := b) (zTt_s h4).1
  unfold zpX at h
  split at h
  · split at h
    · cases h
    · split at h
      · cases h
      · cases h; exact y
  · cases h; exact y
theorem zpM_q {k w : Nat} (hq : A.q < n0) (h : zpM b n0 A k w = .inr C) : A.q < C.q := by
  have y := znx_lt (b := b) hq
  have y2 := znx_r (b := b) (n0 := n0) (q := A.q) (by omega)
  have y3 := znx_r (b := b) y2.2
  unfold zpM at h
  split at h
  · cases h; exact y
  · split at h
    · cases h
    · cases h
      show A.q < znx b n0 (znx b n0 A.q)
      omega
theorem zpT_q {k : Nat} {g : Int} (hq : A.q ≤ n0) (h : zpT b n0 A k g = .inr C) : A.q ≤ C.q := by
  have y := znx_r (b := b) hq
  unfold zpT at h
  by_cases c : zTt b n0 A.q = 3 ∧ 0 ≤ zTs b n0 A.q ∧ zTs b n0 A.q ≤ (if g = 3 then 3 else 999)
  · rw [if_neg (fun y => y c)] at h
    have e := Sum.inr.inj h
    rw [← e]
    exact y.1
  · rw [if_pos c] at h; cases h
theorem zpB_q {k : Nat} {g : Int} (hq : A.q < n0) (h : zpB b n0 A k g = .inr C) : A.q < C.q := by
  have y := znx_lt (b := b) hq
  have y2 := znx_r (b := b) (n0 := n0) (q := A.q) (by omega)
  have y3 := znx_r (b := b) y2.2
  unfold zpB at h
  split at h
  · cases h
  · split at h
    · split at h
      · cases h
      · have g := zpT_q (by exact y3.2) h
        have g : znx b n0 (znx b n0 A.q) ≤ C.q := g
        omega
    · have g := zpT_q (by exact y2.2) h
      have g : znx b n0 A.q ≤ C.q := g
      omega
theorem zpK_q {k : Nat} (h : zpK b n0 A k = .inr C) : A.q < C.q := by
  unfold zpK at h
  split at h
  · cases h
  · rename_i h1
    have z := zkw_w (b := b) (n0 := n0) (A := A) (by omega)
    have y := (zTt_w z).1
    split at h
    · cases h
    · split at h
      · have g := zpM_q (by exact y) h
        exact g
      · have g := zpB_q (by exact y) h
        exact g
theorem zstep_q (hq : A.q ≤ n0) (h : zstep b n0 A = .inr C) : A.q < C.q := by
  unfold zstep at h
  split at h
  · split at h
    · exact zpK_q h
    · exact zpS_q h
  · split at h
    · rename_i h1; exact zpX_q h1.1 h
    · exact zpC_q hq h
end PRG
