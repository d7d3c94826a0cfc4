/-! THE LAYOUT of a Show, and how its leaves stand -/
noncomputable def zpick {α : Type} (Q : α → Prop) (d : α) : α := @dite _ (∃ p, Q p) (Classical.propDecidable _) (fun h => Classical.choose h) (fun _ => d)
theorem zpick_is {α : Type} {Q : α → Prop} {d p : α} (h : Q p) : Q (zpick Q d) := by
  have e : ∃ p, Q p := ⟨p, h⟩
  unfold zpick
  rw [dif_pos e]
  exact Classical.choose_spec e
noncomputable def zsa (S : zSt) : (Nat → Int) × (Nat → Int) := zpick (fun p : (Nat → Int) × (Nat → Int) => zLay S p.1 p.2) (fun _ => 0, fun _ => 0)
theorem zsa_lay {S : zSt} {si ac : Nat → Int} (h : zLay S si ac) : zLay S (zsa S).1 (zsa S).2 := zpick_is (Q := fun p : (Nat → Int) × (Nat → Int) => zLay S p.1 p.2) (p := (si, ac)) h
theorem zsa_eq {S : zSt} {si ac : Nat → Int} (hS : zVt S) (h : zLay S si ac) : ∀ k, k < zN S → si k = (zsa S).1 k ∧ ac k = (zsa S).2 k := by
  obtain ⟨⟨d, r, hv⟩, -⟩ := hS
  exact zLay_uniq hv h (zsa_lay h)
theorem zsa_eqv {S T : zSt} (hS : zVt S) (E : zEqv S T) : zsa T = zsa S := by
  have : (fun p : (Nat → Int) × (Nat → Int) => zLay T p.1 p.2) = (fun p => zLay S p.1 p.2) := by
    funext p
    obtain ⟨⟨d, r, hv⟩, h2⟩ := hS
    exact propext ⟨fun h => E.sym.lay (E.val hv) h, fun h => E.lay hv h⟩
  unfold zsa
  rw [this]
noncomputable def zsd (S : zSt) : Nat → Int := zpick (fun sd => zStand S sd (zlvs S)) (fun _ => 0)
theorem zsd_is {S : zSt} {sd : Nat → Int} (h : zStand S sd (zlvs S)) : zStand S (zsd S) (zlvs S) := zpick_is (Q := fun sd => zStand S sd (zlvs S)) h
noncomputable def ztop (S : zSt) (t : Int) : Int := (ztp (zv S t 7) (zsd S) (zlvs S)).2
theorem ztop_eq {S : zSt} {t a : Int} (h : ztopP S t a) : a = ztop S t := by
  obtain ⟨sd, h1, h2⟩ := id h
  exact ztopP_uniq h ⟨zsd S, zsd_is h1, rfl⟩
/-- how long a Show lasts -/
noncomputable def zlast (S : zSt) : Int := if S 0 0 = 0 then 0 else S 6 0 + (zsa S).2 0
section ON
variable {σ : zSt} {k : Nat}
theorem zOn.kr (ho : zOn σ) (hk : k < 12) : (0 ≤ σ 2 k ∧ σ 2 k ≤ 2) ∧ (-1 ≤ σ 3 k ∧ σ 3 k ≤ 11) ∧ (0 ≤ σ 4 k ∧ σ 4 k ≤ 12) ∧ (0 ≤ σ 5 k ∧ σ 5 k ≤ 3) ∧ (-1 ≤ σ 6 k ∧ σ 6 k ≤ 11) ∧ (0 ≤ σ 7 k ∧ σ 7 k ≤ 999) := ho.1.2.1 k hk
theorem zOn.si (h : zOn σ) (hk : k < (σ 1 0).toNat) : σ 22 k = (zsa (zSv σ 1)).1 k := (zsa_eq h.2.1 h.2.2.1.1 k hk).1
theorem zOn.ac (h : zOn σ) (hk : k < (σ 1 0).toNat) : σ 23 k = (zsa (zSv σ 1)).2 k := (zsa_eq h.2.1 h.2.2.1.1 k hk).2
theorem zOn.be (h : zOn σ) (hk : k < (σ 1 0).toNat) : σ 24 k = zBe (zSv σ 1) (zsa (zSv σ 1)).2 k := by
  obtain ⟨⟨d, r, hv⟩, -⟩ := h.2.1
  rw [(h.2.2.1.2.1 k hk).1]
  exact zBe_congr hv hk (fun i hi _ => h.ac hi)
theorem zOn.opn (h : zOn σ) (hk : k < (σ 1 0).toNat) : σ 26 k = (if zOk (zSv σ 1) k = true then 1 else 0) := (h.2.2.1.2.1 k hk).2.2
theorem zOn.lst (h : zOn σ) : σ 21 5 = zlast (zSv σ 1) := by
  rw [h.2.2.1.2.2.2]
  unfold zlast
  show (if σ 1 0 = 0 then (0 : Int) else σ 7 0 + σ 23 0) = (if σ 1 0 = 0 then 0 else σ 7 0 + (zsa (zSv σ 1)).2 0)
  by_cases z : σ 1 0 = 0
  · rw [if_pos z, if_pos z]
  · have := h.1.1
    rw [if_neg z, if_neg z, h.ac (by omega)]
end ON
/-! ANSWERS: w is the status (0: given), v the answer if given -/
def zQf (σ τ : zSt) : Prop := (∀ a, (a < 34 ∨ 42 ≤ a) → a ≠ 0 → a ≠ 93 → a ≠ 94 → τ a = σ a) ∧ zOn τ ∧ zRs (τ 93) ∧ (∀ j, j ≠ 10 → τ 0 j = σ 0 j)
def zRes (σ σ' : zSt) (a w v : Int) : Prop := zQf σ σ' ∧ σ' 0 10 = w ∧ a = (if w = 0 then v else -1)
theorem zOn_st {σ : zSt} {j : Nat} {c : Int} (ho : zOn σ) : zOn (zs σ 0 j c) := by
  have h : ∀ a, a ≠ 0 → zs σ 0 j c a = σ a := fun a ha => zs_other ha
  obtain ⟨hg, hV, ⟨l1, l2, l3, l4⟩, hK, hs, hor, hF, hM, h7, hN⟩ := ho
  have E : zEqv (zSv σ 1) (zSv (zs σ 0 j c) 1) := zEqv.of (fun r hr => h (1 + r) (by omega))
  have V' := hV.eqv E
  obtain ⟨⟨d, r, hv⟩, hV2⟩ := hV
  have e1 : zs σ 0 j c 1 = σ 1 := h 1 (by decide)
  have e10 : zs σ 0 j c 10 = σ 10 := h 10 (by decide)
  have e43 : zs σ 0 j c 43 = σ 43 := h 43 (by decide)
  have kp : ∀ p, 1 ≤ p → zFilled σ p → zFilled (zs σ 0 j c) p := fun p hp hq => by
    have q : ∀ r, zs σ 0 j c (p + r) = σ (p + r) := fun r => h _ (by omega)
    have q0 : zs σ 0 j c p = σ p := h p (by omega)
    have th : ∀ i, zTh (zs σ 0 j c) p i = zTh σ p i := fun i => by unfold zTh; rw [e10, q0]
    have thp : ∀ i, 1 ≤ zTh σ p i := fun i => by unfold zTh; split <;> omega
    have bp : ∀ k, zbp (zs σ 0 j c) p k = zbp σ p k := fun k => by
      funext i
      unfold zbp
      rw [e43, e10, q0, th, h 9 (by decide), h 7 (by decide), h 25 (by decide), h 3 (by decide), q 3, h _ (show zTh σ p (σ 43 i).toNat + 1 ≠ 0 by omega), h _ (show zTh σ p (σ 43 i).toNat + 3 ≠ 0 by omega)]
    have bk : ∀ k, zBk (zs σ 0 j c) p k = zBk σ p k := fun k => by
      unfold zBk zBP
      rw [bp, e1, e43, h 26 (by decide), h 24 (by decide), h 3 (by decide), th, h _ (show zTh σ p _ + 2 ≠ 0 by omega)]
    obtain ⟨m1, m2, m3, m4⟩ := hq
    unfold zFilled
    rw [e1, h 33 (by decide), h 44 (by decide), h 2 (by decide), q 6, q 7, q0]
    refine ⟨fun k hk => ?_, m2, m3, m4⟩
    have m := m1 k hk
    unfold zMq zOff zIdle zRun zStr zOwn zTa at *
    rw [bk, q0, h 3 (by decide), h 8 (by decide), h 22 (by decide), h 23 (by decide), q 1, q 2, q 3, q 4, q 5, q 6]
    exact m
  have mr : ∀ p, 1 ≤ p → zMr σ p → zMr (zs σ 0 j c) p := fun p hp hq => by
    have q : ∀ r, zs σ 0 j c (p + r) = σ (p + r) := fun r => h _ (by omega)
    unfold zMr at *
    rw [q 1, q 2, q 3, q 4, q 5, q 6, q 7, h p (by omega)]
    exact hq
  refine ⟨zGood_eq (fun r hr => h _ (by omega)) hg, V', ⟨?_, ?_, ?_, ?_⟩, fun k hk => ?_, ?_, ?_, ?_, ⟨mr 34 (by decide) hM.1, fun j hj => mr _ (by omega) (hM.2 j hj)⟩, ?_, ?_⟩
  · rw [h 22 (by decide), h 23 (by decide)]; exact E.lay hv l1
  · intro k hk
    rw [e1] at hk
    rw [h 23 (by decide), h 24 (by decide), h 25 (by decide), h 26 (by decide), E.be hv hk, E.bs hv 12 k hk, E.ok hv hk]
    exact l2 k hk
  · rw [h 26 (by decide)]; exact l3
  · rw [h 21 (by decide), e1, h 7 (by decide), h 23 (by decide)]; exact l4
  · rw [e1] at hk
    have := hK k hk
    unfold zKk at *
    rw [h 3 (by decide), h 26 (by decide), h 25 (by decide), h 24 (by decide), h 23 (by decide), h 22 (by decide), h 8 (by decide)]
    exact this
  · unfold zStood at *
    rw [h 33 (by decide), h 2 (by decide), e1, h 44 (by decide)]
    exact ⟨hs.1, E.stand hs.2⟩
  · unfold zOrd
    rw [e1, e10, e43]; exact hor
  · rw [e1, e10, e43]
    intro i hi
    have hq := hF i hi
    rw [h _ (show 45 + 8 * (σ 43 i).toNat ≠ 0 by omega)]
    exact ⟨hq.1, kp _ (by omega) hq.2⟩
  · rw [h 33 (by decide), e1, e10, h 21 (by decide), e43]; exact h7
  · rw [h 34 (by decide)]
    rcases hN with z | z
    · exact Or.inl z
    · exact Or.inr (kp 34 (by decide) z)
section RES
variable {σ τ : zSt} {w v x c t : Int}
theorem zQf.rf (ho : zOn σ) (hR : zRs (σ 93)) : zQf σ σ := ⟨fun _ _ _ _ _ => rfl, ho, hR, fun _ _ => rfl⟩
theorem zQf.at (hA : zAtP σ τ t) (ho : zOn σ) (hR : zRs (σ 93)) : zQf σ τ := ⟨fun a h1 h2 _ _ => hA.1 a h1, hA.on ho, by rw [hA.1 93 (by decide)]; exact hR, fun j _ => by rw [hA.1 0 (by decide)]⟩
theorem zQf.fr (hF : zFr σ τ) (hR : zRs (τ 93)) : zQf σ τ := ⟨fun a h1 h2 h3 _ => hF.1 a h1 h3, hF.2, hR, fun j _ => by rw [hF.1 0 (by decide) (by decide)]⟩
theorem zQf.fq (hF : zFq σ τ) (hR : zRs (σ 93)) : zQf σ τ := ⟨fun a h1 h2 _ h4 => hF.1 a h1 h4, hF.2, by rw [hF.1 93 (by decide) (by decide)]; exact hR, fun j _ => by rw [hF.1 0 (by decide) (by decide)]⟩
theorem zQf.tr {υ : zSt} (h : zQf σ τ) (g : zQf τ υ) : zQf σ υ := ⟨fun a h1 h2 h3 h4 => (g.1 a h1 h2 h3 h4).trans (h.1 a h1 h2 h3 h4), g.2.1, g.2.2.1, fun j hj => (g.2.2.2 j hj).trans (h.2.2.2 j hj)⟩
theorem zQf.put (h : zQf σ τ) : zQf σ (zs τ 0 10 c) := ⟨fun a h1 h2 h3 h4 => by rw [zs_other h2]; exact h.1 a h1 h2 h3 h4, zOn_st h.2.1, by rw [zs_other (by decide)]; exact h.2.2.1, fun j hj => by rw [zs_row, zu_ne hj]; exact h.2.2.2 j hj⟩
theorem zRes.ok (h : zQf σ τ) (h1 : w = 0) (h2 : v = x) : zRes σ (zs τ 0 10 0) x w v := ⟨h.put, by rw [zs_eq]; exact h1.symm, by rw [if_pos h1]; exact h2.symm⟩
theorem zRes.no (h : zQf σ τ) (h1 : w = c) (h2 : c ≠ 0) : zRes σ (zs τ 0 10 c) (-1) w v := ⟨h.put, by rw [zs_eq]; exact h1.symm, by rw [if_neg (by rw [h1]; exact h2)]⟩
end RES
def zwa (N t c : Int) : Int := if ¬ (0 ≤ t ∧ t ≤ 1999) then 1 else if ¬ (0 ≤ c ∧ c < N) then 2 else 0
def zwl (S : zSt) (c : Int) : Int := if ¬ (0 ≤ c ∧ c < S 0 0) then 2 else if S 1 c.toNat ≠ 0 then 5 else 0
theorem zwa_0 {N t c : Int} : zwa N t c = 0 ↔ (0 ≤ t ∧ t ≤ 1999) ∧ (0 ≤ c ∧ c < N) := by unfold zwa; split <;> (try split) <;> omega
theorem zwa_r {N t c : Int} : 0 ≤ zwa N t c ∧ zwa N t c ≤ 2 := by unfold zwa; split <;> (try split) <;> omega
theorem zwl_0 {S : zSt} {c : Int} : zwl S c = 0 ↔ (0 ≤ c ∧ c < S 0 0) ∧ S 1 c.toNat = 0 := by unfold zwl; split <;> (try split) <;> omega
theorem zwl_r {S : zSt} {c : Int} : 0 ≤ zwl S c ∧ zwl S c ≤ 5 := by unfold zwl; split <;> (try split) <;> omega
theorem c_Nc_give {G : zG} {n : Nat} {σ : zSt} {x : Int} (hn : 189 ≤ n) : Gm G y_Nc_give m_Nc_give 0 0 0 [vr G 0, vi x] n SH σ (zI n SH (fun a σ' => a = x ∧ σ' = zs σ 0 10 0)) := by
  refine g_enter (L := [(0, _), (1, _)]) (by decide) rfl rfl rfl (Nat.le_of_ble_eq_true rfl) (fun X => ?_)
  refine g_aload_n (i := 0) (by decide +kernel) rfl ?_
  refine g_iconst (a := 0) (by decide +kernel) ?_
  refine g_puti f_Nc_77 (by decide +kernel) (by omega) rfl rfl ?_
  refine g_iload_n (i := 1) (by decide +kernel) rfl ?_
  refine g_retI (by decide +kernel) rfl (Or.inl rfl) ⟨by decide, by decide⟩ ?_
  exact ⟨rfl, rfl⟩
theorem c_Nc_refuse {G : zG} {n : Nat} {σ : zSt} {x : Int} (hn : 189 ≤ n) : Gm G y_Nc_refuse m_Nc_refuse 0 0 0 [vr G 0, vi x] n SH σ (zI n SH (fun a σ' => a = -1 ∧ σ' = zs σ 0 10 x)) := by
  refine g_enter (L := [(0, _), (1, _)]) (by decide) rfl rfl rfl (Nat.le_of_ble_eq_true rfl) (fun X => ?_)
  refine g_aload_n (i := 0) (by decide +kernel) rfl ?_
  refine g_iload_n (i := 1) (by decide +kernel) rfl ?_
  refine g_puti f_Nc_77 (by decide +kernel) (by omega) rfl rfl ?_
  refine g_iconst (a := -1) (by decide +kernel) ?_
  refine g_retI (by decide +kernel) rfl (Or.inl rfl) ⟨by decide, by decide⟩ ?_
  exact ⟨rfl, rfl⟩
theorem c_Nc_isTime {G : zG} {n : Nat} {σ : zSt} {t : Int} (z1 : zr t) : Gm G y_Nc_isTime m_Nc_isTime 0 0 0 [vi t] n SH σ (zI n SH (fun a σ' => a = (if 0 ≤ t ∧ t ≤ 1999 then 1 else 0) ∧ σ' = σ)) := by
  refine g_enter (L := [(0, _)]) (by decide) rfl rfl rfl (Nat.le_of_ble_eq_true rfl) (fun X => ?_)
  obtain ⟨za, zb⟩ := id z1
  refine g_iload_n (i := 0) (by decide +kernel) rfl ?_
  refine g_if_lt (off := 14) (tgt := 15) (by decide +kernel) (by decide) ⟨by omega, by omega⟩ (fun h1 => ?_) (fun h1 => ?_)
  · refine g_iconst (a := 0) (by decide +kernel) ?_
    refine g_retI (by decide +kernel) rfl (Or.inr ⟨rfl, by omega⟩) ⟨by decide, by decide⟩ ?_
    first
      | (rw [if_neg (by omega)]; exact ⟨rfl, rfl⟩)
      | (rw [if_pos (by omega)]; exact ⟨rfl, rfl⟩)
  · refine g_iload_n (i := 0) (by decide +kernel) rfl ?_
    refine g_sipush (a := 1999) (by decide +kernel) (by decide) ?_
    refine g_icmp_gt (off := 7) (tgt := 15) (by decide +kernel) (by decide) ⟨by omega, by omega⟩ ⟨by omega, by omega⟩ (fun h8 => ?_) (fun h8 => ?_)
    · refine g_iconst (a := 0) (by decide +kernel) ?_
      refine g_retI (by decide +kernel) rfl (Or.inr ⟨rfl, by omega⟩) ⟨by decide, by decide⟩ ?_
      first
        | (rw [if_neg (by omega)]; exact ⟨rfl, rfl⟩)
        | (rw [if_pos (by omega)]; exact ⟨rfl, rfl⟩)
    · refine g_iconst (a := 1) (by decide +kernel) ?_
      refine g_goto (off := 4) (tgt := 16) (by decide +kernel) (by decide) ?_
      refine g_retI (by decide +kernel) rfl (Or.inr ⟨rfl, by omega⟩) ⟨by decide, by decide⟩ ?_
      first
        | (rw [if_neg (by omega)]; exact ⟨rfl, rfl⟩)
        | (rw [if_pos (by omega)]; exact ⟨rfl, rfl⟩)
theorem c_Nc_status {G : zG} {n : Nat} {σ : zSt} (hn : 189 ≤ n) : Gm G y_Nc_status m_Nc_status 0 0 0 [vr G 0] n SH σ (zI n SH (fun a σ' => a = σ 0 10 ∧ σ' = σ)) := by
  refine g_enter (L := [(0, _)]) (by decide) rfl rfl rfl (Nat.le_of_ble_eq_true rfl) (fun X => ?_)
  refine g_aload_n (i := 0) (by decide +kernel) rfl ?_
  refine g_geti f_Nc_77 (by decide +kernel) (by omega) rfl rfl ?_
  refine g_retI (by decide +kernel) rfl (Or.inl rfl) ⟨by decide, by decide⟩ ?_
  exact ⟨rfl, rfl⟩
theorem c_Nc_fault {G : zG} {n : Nat} {σ : zSt} {x : Int} (hn : 189 ≤ n) (z1 : zr x) : Gm G y_Nc_fault m_Nc_fault 0 0 0 [vr G 0, vi x] n SH σ (zI n SH (fun a σ' => a = (if x = 0 then σ 0 11 else if x = 1 then σ 0 12 else -1) ∧ σ' = σ)) := by
  refine g_enter (L := [(0, _), (1, _)]) (by decide) rfl rfl rfl (Nat.le_of_ble_eq_true rfl) (fun X => ?_)
  obtain ⟨za, zb⟩ := id z1
  refine g_iload_n (i := 1) (by decide +kernel) rfl ?_
  refine g_if_ne (off := 10) (tgt := 11) (by decide +kernel) (by decide) ⟨by omega, by omega⟩ (fun h1 => ?_) (fun h1 => ?_)
  · refine g_iload_n (i := 1) (by decide +kernel) rfl ?_
    refine g_iconst (a := 1) (by decide +kernel) ?_
    refine g_icmp_ne (off := 10) (tgt := 23) (by decide +kernel) (by decide) ⟨by omega, by omega⟩ ⟨by omega, by omega⟩ (fun h13 => ?_) (fun h13 => ?_)
    · refine g_iconst (a := -1) (by decide +kernel) ?_
      refine g_retI (by decide +kernel) rfl (Or.inl rfl) ⟨by decide, by decide⟩ ?_
      exact ⟨by (repeat' split) <;> omega, rfl⟩
    · refine g_aload_n (i := 0) (by decide +kernel) rfl ?_
      refine g_geti f_Nc_84 (by decide +kernel) (by omega) rfl rfl ?_
      refine g_goto (off := 4) (tgt := 24) (by decide +kernel) (by decide) ?_
      refine g_retI (by decide +kernel) rfl (Or.inl rfl) ⟨by decide, by decide⟩ ?_
      exact ⟨by (repeat' split) <;> omega, rfl⟩
  · refine g_aload_n (i := 0) (by decide +kernel) rfl ?_
    refine g_geti f_Nc_81 (by decide +kernel) (by omega) rfl rfl ?_
    refine g_goto (off := 16) (tgt := 24) (by decide +kernel) (by decide) ?_
    refine g_retI (by decide +kernel) rfl (Or.inl rfl) ⟨by decide, by decide⟩ ?_
    exact ⟨by (repeat' split) <;> omega, rfl⟩
theorem c_Nc_whyNotAt {G : zG} {n : Nat} {σ : zSt} {c t : Int} (hn : 189 ≤ n) (ho : zOn σ) (hR : zRs (σ 93)) (z1 : zr c) (z2 : zr t) : Gm G y_Nc_whyNotAt m_Nc_whyNotAt 1 0 0 [vr G 0, vi c, vi t] n SH σ (zI n SH (fun a σ' => a = zwa (σ 1 0) t c ∧ σ' = σ)) := by
  refine g_enter (L := [(0, _), (1, _), (2, _)]) (by decide) rfl rfl rfl (Nat.le_of_ble_eq_true rfl) (fun X => ?_)
  have hc := ho.1.1
  obtain ⟨z1a, z1b⟩ := id z1
  obtain ⟨z2a, z2b⟩ := id z2
  refine g_iload_n (i := 2) (by decide +kernel) rfl ?_
  refine g_cSI (st := _) (c_Nc_isTime (by assumption)) k_Nc_isTime l_Nc_187 (by decide +kernel) rfl rfl (Nat.le_of_ble_eq_true rfl) (by decide) ⟨by decide, by decide⟩ ?_
  rintro a σ9 ⟨ea, hσ⟩
  obtain rfl := hσ.symm
  subst ea
  refine g_if_ne (off := 7) (tgt := 11) (by decide +kernel) (by decide) zbr (fun h4 => ?_) (fun h4 => ?_)
  · have h4 := zb1.mp h4
    refine g_aload_n (i := 0) (by decide +kernel) rfl ?_
    refine g_getr f_Nc_10 (by decide +kernel) (by omega) rfl rfl ?_
    refine g_iload_n (i := 1) (by decide +kernel) rfl ?_
    refine g_cVI (st := _) (c_Sh_has (b := 1) hn sh_1 (by assumption) ⟨hc.1, hc.2.1⟩) k_Sh_has l_Nc_117 (by decide +kernel) (by omega) rfl rfl rfl rfl (Nat.le_of_ble_eq_true rfl) (by decide) ⟨by decide, by decide⟩ ?_
    rintro a σ9 ⟨ea, hσ⟩
    obtain rfl := hσ.symm
    subst ea
    refine g_if_ne (off := 7) (tgt := 26) (by decide +kernel) (by decide) zbr (fun h19 => ?_) (fun h19 => ?_)
    · have h19 := zb1.mp h19
      refine g_iconst (a := 0) (by decide +kernel) ?_
      refine g_retI (by decide +kernel) rfl (Or.inl rfl) ⟨by decide, by decide⟩ ?_
      exact ⟨by unfold zwa; (repeat' split) <;> omega, rfl⟩
    · have h19 := zb0.mp h19
      refine g_iconst (a := 2) (by decide +kernel) ?_
      refine g_goto (off := 4) (tgt := 27) (by decide +kernel) (by decide) ?_
      refine g_retI (by decide +kernel) rfl (Or.inl rfl) ⟨by decide, by decide⟩ ?_
      exact ⟨by unfold zwa; (repeat' split) <;> omega, rfl⟩
  · have h4 := zb0.mp h4
    refine g_iconst (a := 1) (by decide +kernel) ?_
    refine g_goto (off := 19) (tgt := 27) (by decide +kernel) (by decide) ?_
    refine g_retI (by decide +kernel) rfl (Or.inl rfl) ⟨by decide, by decide⟩ ?_
    exact ⟨by unfold zwa; (repeat' split) <;> omega, rfl⟩
theorem c_Nc_whyNoLeaf {G : zG} {n : Nat} {σ : zSt} {c : Int} (hn : 189 ≤ n) (ho : zOn σ) (hR : zRs (σ 93)) (z1 : zr c) : Gm G y_Nc_whyNoLeaf m_Nc_whyNoLeaf 1 0 0 [vr G 0, vi c] n SH σ (zI n SH (fun a σ' => a = zwl (zSv σ 1) c ∧ σ' = σ)) := by
  refine g_enter (L := [(0, _), (1, _)]) (by decide) rfl rfl rfl (Nat.le_of_ble_eq_true rfl) (fun X => ?_)
  have hc := ho.1.1
  obtain ⟨z1a, z1b⟩ := id z1
  have e0 : zSv σ 1 0 0 = σ 1 0 := rfl
  have e1 : zSv σ 1 1 c.toNat = σ 2 c.toNat := rfl
  refine g_aload_n (i := 0) (by decide +kernel) rfl ?_
  refine g_getr f_Nc_10 (by decide +kernel) (by omega) rfl rfl ?_
  refine g_iload_n (i := 1) (by decide +kernel) rfl ?_
  refine g_cVI (st := _) (c_Sh_has (b := 1) hn sh_1 (by assumption) ⟨hc.1, hc.2.1⟩) k_Sh_has l_Nc_117 (by decide +kernel) (by omega) rfl rfl rfl rfl (Nat.le_of_ble_eq_true rfl) (by decide) ⟨by decide, by decide⟩ ?_
  rintro a σ9 ⟨ea, hσ⟩
  obtain rfl := hσ.symm
  subst ea
  refine g_if_ne (off := 7) (tgt := 15) (by decide +kernel) (by decide) zbr (fun h8 => ?_) (fun h8 => ?_)
  · have h8 := zb1.mp h8
    have kg := (ho.kr (show c.toNat < 12 by omega)).1
    refine g_aload_n (i := 0) (by decide +kernel) rfl ?_
    refine g_getr f_Nc_10 (by decide +kernel) (by omega) rfl rfl ?_
    refine g_getr f_Nc_124 (by decide +kernel) (by omega) rfl rfl ?_
    refine g_iload_n (i := 1) (by decide +kernel) rfl ?_
    refine g_iald (j := c.toNat) (by decide +kernel) (by omega) rfl (by omega) (by omega) (by decide) ?_
    refine g_if_eq (off := 7) (tgt := 31) (by decide +kernel) (by decide) ⟨by omega, by omega⟩ (fun h24 => ?_) (fun h24 => ?_)
    · refine g_iconst (a := 0) (by decide +kernel) ?_
      refine g_retI (by decide +kernel) rfl (Or.inl rfl) ⟨by decide, by decide⟩ ?_
      exact ⟨by unfold zwl; rw [e0, e1]; (repeat' split) <;> omega, rfl⟩
    · refine g_iconst (a := 5) (by decide +kernel) ?_
      refine g_goto (off := 4) (tgt := 32) (by decide +kernel) (by decide) ?_
      refine g_retI (by decide +kernel) rfl (Or.inl rfl) ⟨by decide, by decide⟩ ?_
      exact ⟨by unfold zwl; rw [e0, e1]; (repeat' split) <;> omega, rfl⟩
  · have h8 := zb0.mp h8
    refine g_iconst (a := 2) (by decide +kernel) ?_
    refine g_goto (off := 20) (tgt := 32) (by decide +kernel) (by decide) ?_
    refine g_retI (by decide +kernel) rfl (Or.inl rfl) ⟨by decide, by decide⟩ ?_
    exact ⟨by unfold zwl; rw [e0, e1]; (repeat' split) <;> omega, rfl⟩
