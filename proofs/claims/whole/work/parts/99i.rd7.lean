/-! READING: a clip is closed -/
/-- the clip of that name right within the one that is open -/
def znmd (A : zAb) (x : Int) : Int := zfst (fun j => decide (A.D 2 j = A.op ∧ A.nm j = x)) (zN A.D)
/-- those right within it that start by another one are bound, as far as clip i -/
def zbd (A : zAb) (i : Nat) : zSt := zrow A.D 5 (fun j => if j < i ∧ A.D 2 j = A.op ∧ zby (A.D 4 j) = true then znmd A (A.sn j) else A.D 5 j)
def zbad (A : zAb) : Prop := ∃ j, j < zN A.D ∧ A.D 2 j = A.op ∧ zby (A.D 4 j) = true ∧ (znmd A (A.sn j) = -1 ∨ znmd A (A.sn j) = (j : Int))
def zRng (A : zAb) : Prop := ∃ j, j < zN A.D ∧ A.D 2 j = A.op ∧ zby (A.D 4 j) = true ∧ zlead (A.D 4) (A.D 5) (j : Int) 12 (A.D 5 j) = true
abbrev zAD (A : zAb) (D : zSt) : zAb := zAm A.q D A.nm A.sn A.td A.op A.mk
theorem znmd_r (A : zAb) (x : Int) : -1 ≤ znmd A x ∧ znmd A x < zN A.D := zfst_range
theorem zbd_oth (A : zAb) (i : Nat) {r : Nat} (h : r ≠ 5) : zbd A i r = A.D r := zrow_ne h
theorem znmd_bd (A : zAb) (i : Nat) (x : Int) : znmd (zAD A (zbd A i)) x = znmd A x := by
  show zfst (fun j => decide (zbd A i 2 j = A.op ∧ A.nm j = x)) (zbd A i 0 0).toNat = _
  rw [zbd_oth A i (show (2 : Nat) ≠ 5 by decide), zbd_oth A i (show (0 : Nat) ≠ 5 by decide)]
  rfl
theorem zbd_5 (A : zAb) (i j : Nat) : zbd A i 5 j = if j < i ∧ A.D 2 j = A.op ∧ zby (A.D 4 j) = true then znmd A (A.sn j) else A.D 5 j := by unfold zbd zrow; rw [if_pos rfl]
theorem zbd_0 (A : zAb) : zbd A 0 = A.D := by
  funext r
  by_cases h : r = 5
  · subst h; funext j; rw [zbd_5, if_neg (by omega)]
  · exact zbd_oth A 0 h
theorem zbd_no {A : zAb} {i : Nat} (h : ¬ (A.D 2 i = A.op ∧ zby (A.D 4 i) = true)) : zbd A (i + 1) = zbd A i := by
  funext r
  by_cases e : r = 5
  · subst e; funext j; rw [zbd_5, zbd_5]
    by_cases q : j = i
    · subst q; rw [if_neg (fun y => h y.2), if_neg (fun y => h y.2)]
    · by_cases w : j < i ∧ A.D 2 j = A.op ∧ zby (A.D 4 j) = true
      · rw [if_pos ⟨by omega, w.2⟩, if_pos w]
      · rw [if_neg (fun y => w ⟨by omega, y.2⟩), if_neg w]
  · rw [zbd_oth A _ e, zbd_oth A _ e]
theorem zbd_s {A : zAb} {i : Nat} (h : A.D 2 i = A.op ∧ zby (A.D 4 i) = true) : zs (zbd A i) 5 i (znmd A (A.sn i)) = zbd A (i + 1) := by
  funext r
  by_cases e : r = 5
  · subst e; funext j
    by_cases q : j = i
    · subst q; rw [zs_eq, zbd_5, if_pos ⟨by omega, h⟩]
    · rw [zs_ne (fun y => q y.2), zbd_5, zbd_5]
      by_cases w : j < i ∧ A.D 2 j = A.op ∧ zby (A.D 4 j) = true
      · rw [if_pos w, if_pos ⟨by omega, w.2⟩]
      · rw [if_neg w, if_neg (fun y => w ⟨by omega, y.2⟩)]
  · rw [zs_other e, zbd_oth A _ e, zbd_oth A _ e]
theorem zbd_good {A : zAb} {i : Nat} (h : zGood A.D 0) : zGood (zbd A i) 0 := by
  have h12 : A.D 0 0 ≤ 12 := h.1.2.1
  obtain ⟨h1, h2, h3, h4⟩ := h
  unfold zGood
  simp only [Nat.zero_add] at h1 h2 h3 h4 ⊢
  rw [zbd_oth A i (show (0 : Nat) ≠ 5 by decide), zbd_oth A i (show (1 : Nat) ≠ 5 by decide), zbd_oth A i (show (2 : Nat) ≠ 5 by decide), zbd_oth A i (show (3 : Nat) ≠ 5 by decide), zbd_oth A i (show (4 : Nat) ≠ 5 by decide), zbd_oth A i (show (6 : Nat) ≠ 5 by decide), zbd_oth A i (show (7 : Nat) ≠ 5 by decide), zbd_oth A i (show (8 : Nat) ≠ 5 by decide), zbd_oth A i (show (9 : Nat) ≠ 5 by decide)]
  refine ⟨h1, fun k hk => ?_, h3, h4⟩
  obtain ⟨g1, g2, g3, g4, g5, g6⟩ := h2 k hk
  refine ⟨g1, g2, g3, g4, ?_, g6⟩
  rw [zbd_5]
  split
  · have q := znmd_r A (A.sn k)
    have z : zN A.D = (A.D 0 0).toNat := rfl
    omega
  · exact g5
noncomputable def zpX (b : Nat → Int) (n0 : Nat) (A : zAb) : (Int × Nat) ⊕ zAb := by
  classical
  exact if A.D 1 A.op.toNat = 1 then (if zbad A then .inl (3, A.q) else if zRng (zAD A (zbd A (zN A.D))) then .inl (7, A.q) else .inr (zAm (znx b n0 A.q) (zbd A (zN A.D)) A.nm A.sn A.td (A.D 2 A.op.toNat) A.mk)) else .inr (zAm (znx b n0 A.q) A.D A.nm A.sn A.td (A.D 2 A.op.toNat) A.mk)
theorem w_Rd_namedInOpen {G : zG} {X : zX} {n : Nat} {σ σ0 : zSt} {b : Nat → Int} {n0 : Nat} {A : zAb} (hn : 189 ≤ n) (hb : zBt b) (hn0 : n0 ≤ 600) (hR : zRc b n0 σ0 A σ) {o : Nat} (hA : zAi n0 A) (ho : A.op = (o : Int)) (hpar : ∀ j, j < zN A.D → A.D 2 j < (j : Int)) {x : Int} (hx : 0 ≤ x ∧ x < 1099511627776)  : ∀ (m : Nat) (i : Nat) (x3 : Int), x3 = (i : Int) → o < i → i ≤ zN A.D → (∀ j, j < i → ¬ (A.D 2 j = A.op ∧ A.nm j = x)) → zN A.D < i + m → Go G X m_Rd_namedInOpen (0, 0, 0, 0, 0) n SH σ 7 [(0, vr G 179), (1, vl x), (3, vi x3)] [] (zI n SH (fun a σ' => a = znmd A x ∧ σ' = σ)) := by
  intro m
  induction m with
  | zero => intro i x3 e3 hoi hi hno hm; exact absurd hm (by omega)
  | succ m ih =>
    intro i x3 e3 hoi hi hno hm
    subst e3
    have hq := hA.1
    have hG := hA.2.1
    have ob := hA.2.2.1
    have hN : zN A.D = (A.D 0 0).toNat := rfl
    have hD12 : A.D 0 0 ≤ 12 := hG.1.2.1
    obtain ⟨⟨a1, a2⟩, ⟨a3, a3b, a3c, a3d⟩, ⟨a4, a5, a6, a7, a8⟩, ⟨a9, a10⟩, a11, a12⟩ := id hR
    have e0 : σ 11 0 = A.D 0 0 := by rw [show σ 11 = A.D 0 from a11 0 (by decide)]
    have e2 : σ 13 = A.D 2 := a11 2 (by decide)
    have e4 : σ 15 = A.D 4 := a11 4 (by decide)
    have e5 : σ 16 = A.D 5 := a11 5 (by decide)
    have a4o : σ 179 10 = (o : Int) := by rw [a4]; exact ho
    refine g_iload_n (i := 3) (by decide +kernel) rfl ?_
    refine g_aload_n (i := 0) (by decide +kernel) rfl ?_
    refine g_getr f_Rd_22 (by decide +kernel) (by omega) rfl rfl ?_
    refine g_geti f_Rd_100 (by decide +kernel) (by omega) rfl rfl ?_
    refine g_icmp_ge (off := 38) (tgt := 53) (by decide +kernel) (by decide) ⟨by omega, by omega⟩ ⟨by omega, by omega⟩ (fun h15 => ?_) (fun h15 => ?_)
    · refine g_iconst (a := -1) (by decide +kernel) ?_
      refine g_retI (by decide +kernel) rfl (Or.inl rfl) ⟨by decide, by decide⟩ ?_
      refine ⟨?_, rfl⟩
      unfold znmd
      exact (zfst_none (fun j hj => decide_eq_false (hno j (by omega)))).symm
    · have ni := (hA.2.2.2.2.1 i (by omega)).1
      have e180 : σ 180 i = A.nm i := by rw [a9]
      have e2i : σ 13 i = A.D 2 i := by rw [e2]
      have g2 : -1 ≤ A.D 2 i ∧ A.D 2 i ≤ 11 := (hG.2.1 i (by omega)).2.1
      refine g_aload_n (i := 0) (by decide +kernel) rfl ?_
      refine g_getr f_Rd_22 (by decide +kernel) (by omega) rfl rfl ?_
      refine g_getr f_Rd_166 (by decide +kernel) (by omega) rfl rfl ?_
      refine g_iload_n (i := 3) (by decide +kernel) rfl ?_
      refine g_iald (j := i) (by decide +kernel) (by omega) rfl rfl (by omega) (by decide) ?_
      refine g_aload_n (i := 0) (by decide +kernel) rfl ?_
      refine g_geti f_Rd_37 (by decide +kernel) (by omega) rfl rfl ?_
      refine g_icmp_ne (off := 16) (tgt := 47) (by decide +kernel) (by decide) ⟨by omega, by omega⟩ ⟨by omega, by omega⟩ (fun h31 => ?_) (fun h31 => ?_)
      · refine g_iinc (i := 3) (b := 1) (L' := [(0, _), (1, _), (3, _)]) (by decide +kernel) rfl rfl rfl ?_
        refine g_goto (off := -43) (tgt := 7) (by decide +kernel) (by decide) ?_
        refine ih (i + 1) _ (by push_cast; rfl) (by omega) (by omega) (fun j hj => ?_) (by omega)
        rcases Nat.lt_or_ge j i with y | y
        · exact hno j y
        · have e : j = i := by omega
          rw [e]
          omega
      · refine g_aload_n (i := 0) (by decide +kernel) rfl ?_
        refine g_getr f_Rd_11 (by decide +kernel) (by omega) rfl rfl ?_
        refine g_iload_n (i := 3) (by decide +kernel) rfl ?_
        refine g_lald (j := i) (by decide +kernel) (by omega) rfl rfl (by omega) (by decide) ?_
        refine g_lload_n (i := 1) (by decide +kernel) rfl ?_
        refine g_lcmp (by decide +kernel) ⟨by omega, by omega⟩ ⟨by omega, by omega⟩ ?_
        refine g_if_ne (off := 5) (tgt := 47) (by decide +kernel) (by decide) zcmp_r (fun h42 => ?_) (fun h42 => ?_)
        · have h42 := zcmp_ne.mp h42
          refine g_iinc (i := 3) (b := 1) (L' := [(0, _), (1, _), (3, _)]) (by decide +kernel) rfl rfl rfl ?_
          refine g_goto (off := -43) (tgt := 7) (by decide +kernel) (by decide) ?_
          refine ih (i + 1) _ (by push_cast; rfl) (by omega) (by omega) (fun j hj => ?_) (by omega)
          rcases Nat.lt_or_ge j i with y | y
          · exact hno j y
          · have e : j = i := by omega
            rw [e]
            omega
        · have h42 := zcmp_eq.mp h42
          refine g_iload_n (i := 3) (by decide +kernel) rfl ?_
          refine g_retI (by decide +kernel) rfl (Or.inl rfl) ⟨by decide, by decide⟩ ?_
          refine ⟨?_, rfl⟩
          unfold znmd
          exact (zfst_at (fun j hj => decide_eq_false (hno j hj)) (decide_eq_true ⟨by omega, by omega⟩) (by omega)).symm
theorem c_Rd_namedInOpen {G : zG} {n : Nat} {σ σ0 : zSt} {b : Nat → Int} {n0 : Nat} {A : zAb} (hn : 189 ≤ n) (hb : zBt b) (hn0 : n0 ≤ 600) (hR : zRc b n0 σ0 A σ) {o : Nat} (hA : zAi n0 A) (ho : A.op = (o : Int)) (hpar : ∀ j, j < zN A.D → A.D 2 j < (j : Int)) {x : Int} (hx : 0 ≤ x ∧ x < 1099511627776)  : Gm G y_Rd_namedInOpen m_Rd_namedInOpen 0 0 0 [vr G 179, vl x] n SH σ (zI n SH (fun a σ' => a = znmd A x ∧ σ' = σ)) := by
  refine g_enter (L := [(0, _), (1, _)]) (by decide) rfl rfl rfl (Nat.le_of_ble_eq_true rfl) (fun X => ?_)
  have hq := hA.1
  have hG := hA.2.1
  have ob := hA.2.2.1
  have hN : zN A.D = (A.D 0 0).toNat := rfl
  have hD12 : A.D 0 0 ≤ 12 := hG.1.2.1
  obtain ⟨⟨a1, a2⟩, ⟨a3, a3b, a3c, a3d⟩, ⟨a4, a5, a6, a7, a8⟩, ⟨a9, a10⟩, a11, a12⟩ := id hR
  have e0 : σ 11 0 = A.D 0 0 := by rw [show σ 11 = A.D 0 from a11 0 (by decide)]
  have e2 : σ 13 = A.D 2 := a11 2 (by decide)
  have e4 : σ 15 = A.D 4 := a11 4 (by decide)
  have e5 : σ 16 = A.D 5 := a11 5 (by decide)
  have a4o : σ 179 10 = (o : Int) := by rw [a4]; exact ho
  refine g_aload_n (i := 0) (by decide +kernel) rfl ?_
  refine g_geti f_Rd_37 (by decide +kernel) (by omega) rfl rfl ?_
  refine g_iconst (a := 1) (by decide +kernel) ?_
  refine g_iadd (by decide +kernel) ?_
  refine g_istore_n (i := 3) (L' := [(0, _), (1, _), (3, _)]) (by decide +kernel) rfl rfl ?_
  rw [a4o]
  refine w_Rd_namedInOpen hn hb hn0 hR hA ho hpar hx (zN A.D + 1) (o + 1) _ (by push_cast; rfl) (by omega) (by omega) (fun j hj y => ?_) (by omega)
  have := hpar j (by omega)
  omega
theorem w_Rd_findOthers {G : zG} {X : zX} {n : Nat} {σ σ0 : zSt} {b : Nat → Int} {n0 : Nat} {A : zAb} (hn : 189 ≤ n) (hb : zBt b) (hn0 : n0 ≤ 600) (hR : zRc b n0 σ0 A σ) {o : Nat} (hA : zAi n0 A) (ho : A.op = (o : Int)) (hpar : ∀ j, j < zN A.D → A.D 2 j < (j : Int))  : ∀ (m : Nat) (i : Nat) (x1 : Int) (τ : zSt), x1 = (i : Int) → zRc b n0 σ0 (zAD A (zbd A i)) τ → o < i → i ≤ zN A.D → (∀ j, j < i → A.D 2 j = A.op → zby (A.D 4 j) = true → znmd A (A.sn j) ≠ -1 ∧ znmd A (A.sn j) ≠ (j : Int)) → zN A.D < i + m → Go G X m_Rd_findOthers (1, 0, 0, 0, 0) n SH τ 7 [(0, vr G 179), (1, vi x1)] [] (zI n SH (fun a σ' => (a = 1 ∧ ¬ zbad A ∧ zRc b n0 σ0 (zAD A (zbd A (zN A.D))) σ') ∨ (a = 0 ∧ zbad A ∧ ∃ i, zRc b n0 σ0 (zAD A (zbd A i)) σ'))) := by
  intro m
  induction m with
  | zero => intro i x1 τ e1 hT hoi hi hno hm; exact absurd hm (by omega)
  | succ m ih =>
    intro i x1 τ e1 hT hoi hi hno hm
    subst e1
    have hq := hA.1
    have hG := hA.2.1
    have ob := hA.2.2.1
    have hN : zN A.D = (A.D 0 0).toNat := rfl
    have hD12 : A.D 0 0 ≤ 12 := hG.1.2.1
    obtain ⟨⟨a1, a2⟩, ⟨a3, a3b, a3c, a3d⟩, ⟨a4, a5, a6, a7, a8⟩, ⟨a9, a10⟩, a11, a12⟩ := id hR
    have h7 := hT
    obtain ⟨⟨b1, b2⟩, -, ⟨b4, b5, b6, b7, b8⟩, ⟨b9, b10⟩, b11, b12⟩ := h7
    have f0 : τ 11 0 = A.D 0 0 := by rw [show τ 11 = zbd A i 0 from b11 0 (by decide), zbd_oth A i (by decide)]
    have f2 : τ 13 = A.D 2 := by rw [show τ 13 = zbd A i 2 from b11 2 (by decide), zbd_oth A i (by decide)]
    have f4 : τ 15 = A.D 4 := by rw [show τ 15 = zbd A i 4 from b11 4 (by decide), zbd_oth A i (by decide)]
    have b4o : τ 179 10 = (o : Int) := by rw [b4]; exact ho
    have gd : zGood τ 11 := zGood_rows b11 (zbd_good hG)
    have hAi : zAi n0 (zAD A (zbd A i)) := by
      refine ⟨hq, zbd_good hG, ?_, ?_, ?_, hA.2.2.2.2.2⟩
      · show -1 ≤ A.op ∧ A.op < zbd A i 0 0; rw [zbd_oth A i (by decide)]; exact ob
      · show -1 ≤ A.mk ∧ A.mk < zbd A i 0 0; rw [zbd_oth A i (by decide)]; exact hA.2.2.2.1
      · intro j hj
        have hj : j < (zbd A i 0 0).toNat := hj
        rw [zbd_oth A i (by decide)] at hj; exact hA.2.2.2.2.1 j hj
    have hpi : ∀ j, j < zN (zAD A (zbd A i)).D → (zAD A (zbd A i)).D 2 j < (j : Int) := by
      intro j hj
      have hj : j < (zbd A i 0 0).toNat := hj
      rw [zbd_oth A i (by decide)] at hj
      show zbd A i 2 j < (j : Int)
      rw [zbd_oth A i (by decide)]; exact hpar j hj
    have e0 : σ 11 0 = A.D 0 0 := by rw [show σ 11 = A.D 0 from a11 0 (by decide)]
    have e2 : σ 13 = A.D 2 := a11 2 (by decide)
    have e4 : σ 15 = A.D 4 := a11 4 (by decide)
    have e5 : σ 16 = A.D 5 := a11 5 (by decide)
    have a4o : σ 179 10 = (o : Int) := by rw [a4]; exact ho
    refine g_iload_n (i := 1) (by decide +kernel) rfl ?_
    refine g_aload_n (i := 0) (by decide +kernel) rfl ?_
    refine g_getr f_Rd_22 (by decide +kernel) (by omega) rfl rfl ?_
    refine g_geti f_Rd_100 (by decide +kernel) (by omega) rfl rfl ?_
    refine g_icmp_ge (off := 69) (tgt := 84) (by decide +kernel) (by decide) ⟨by omega, by omega⟩ ⟨by omega, by omega⟩ (fun h15 => ?_) (fun h15 => ?_)
    · refine g_iconst (a := 1) (by decide +kernel) ?_
      refine g_retI (by decide +kernel) rfl (Or.inr ⟨rfl, by omega⟩) ⟨by decide, by decide⟩ ?_
      have e : i = zN A.D := by omega
      subst e
      refine Or.inl ⟨rfl, fun ⟨j, j1, j2, j3, j4⟩ => ?_, hT⟩
      have := hno j j1 j2 j3
      rcases j4 with y | y
      · exact this.1 y
      · exact this.2 y
    · have si := (hA.2.2.2.2.1 i (by omega)).2
      have e181 : τ 181 i = A.sn i := by rw [b10]
      have e2i : τ 13 i = A.D 2 i := by rw [f2]
      have g2 : -1 ≤ A.D 2 i ∧ A.D 2 i ≤ 11 := (hG.2.1 i (by omega)).2.1
      refine g_aload_n (i := 0) (by decide +kernel) rfl ?_
      refine g_getr f_Rd_22 (by decide +kernel) (by omega) rfl rfl ?_
      refine g_getr f_Rd_166 (by decide +kernel) (by omega) rfl rfl ?_
      refine g_iload_n (i := 1) (by decide +kernel) rfl ?_
      refine g_iald (j := i) (by decide +kernel) (by omega) rfl rfl (by omega) (by decide) ?_
      refine g_aload_n (i := 0) (by decide +kernel) rfl ?_
      refine g_geti f_Rd_37 (by decide +kernel) (by omega) rfl rfl ?_
      refine g_icmp_ne (off := 47) (tgt := 78) (by decide +kernel) (by decide) ⟨by omega, by omega⟩ ⟨by omega, by omega⟩ (fun h31 => ?_) (fun h31 => ?_)
      · refine g_iinc (i := 1) (b := 1) (L' := [(0, _), (1, _)]) (by decide +kernel) rfl rfl rfl ?_
        refine g_goto (off := -74) (tgt := 7) (by decide +kernel) (by decide) ?_
        refine g_less [0, 1] rfl ?_
        first
          | (have hz : A.D 2 i = A.op := e2p
             rw [ea7]
             refine ih (i + 1) _ _ (by push_cast; rfl) ?_ (by omega) (by omega) (fun j hj q1 q2 => ?_) (by omega)
             · rw [← zbd_s ⟨e2p, hby⟩]
               exact hT.drf (fun a ha => by rw [zs_other (by omega)]) (b11.put (r := 5) (by decide))
             · rcases Nat.lt_or_ge j i with y | y
               · exact hno j y q1 q2
               · have e : j = i := by omega
                 subst e
                 omega)
          | (have hz : ¬ (A.D 2 i = A.op ∧ zby (A.D 4 i) = true) := by
               first
               | (intro y; omega)
               | (intro y
                  rw [ea9] at h42
                  exact zit0 h42 y.2)
             refine ih (i + 1) _ _ (by push_cast; rfl) (by rw [zbd_no hz]; exact hT) (by omega) (by omega) (fun j hj q1 q2 => ?_) (by omega)
             rcases Nat.lt_or_ge j i with y | y
             · exact hno j y q1 q2
             · have e : j = i := by omega
               subst e
               exact absurd ⟨q1, q2⟩ hz)
      · refine g_aload_n (i := 0) (by decide +kernel) rfl ?_
        refine g_getr f_Rd_22 (by decide +kernel) (by omega) rfl rfl ?_
        refine g_iload_n (i := 1) (by decide +kernel) rfl ?_
        refine g_cVI (st := _) (c_Sh_startsByAnother (b := 11) (k := i) hn sh_11 gd (by omega)) k_Sh_startsByAnother l_Rd_169 (by decide +kernel) (by omega) rfl rfl rfl rfl (Nat.le_of_ble_eq_true rfl) (by decide) ⟨by decide, by decide⟩ ?_
        rintro a9_ σ9 ⟨ea9, hσ9⟩
        obtain rfl := hσ9.symm
        have ea9 : a9_ = (if zby (τ 15 i) = true then 1 else 0) := ea9
        rw [f4] at ea9
        have ea : a9_ = 0 ∨ a9_ = 1 := by rw [ea9]; split <;> omega
        refine g_if_eq (off := 36) (tgt := 78) (by decide +kernel) (by decide) ⟨by omega, by omega⟩ (fun h42 => ?_) (fun h42 => ?_)
        · refine g_iinc (i := 1) (b := 1) (L' := [(0, _), (1, _)]) (by decide +kernel) rfl rfl rfl ?_
          refine g_goto (off := -74) (tgt := 7) (by decide +kernel) (by decide) ?_
          refine g_less [0, 1] rfl ?_
          first
            | (have hz : A.D 2 i = A.op := e2p
               rw [ea7]
               refine ih (i + 1) _ _ (by push_cast; rfl) ?_ (by omega) (by omega) (fun j hj q1 q2 => ?_) (by omega)
               · rw [← zbd_s ⟨e2p, hby⟩]
                 exact hT.drf (fun a ha => by rw [zs_other (by omega)]) (b11.put (r := 5) (by decide))
               · rcases Nat.lt_or_ge j i with y | y
                 · exact hno j y q1 q2
                 · have e : j = i := by omega
                   subst e
                   omega)
            | (have hz : ¬ (A.D 2 i = A.op ∧ zby (A.D 4 i) = true) := by
                 first
                 | (intro y; omega)
                 | (intro y
                    rw [ea9] at h42
                    exact zit0 h42 y.2)
               refine ih (i + 1) _ _ (by push_cast; rfl) (by rw [zbd_no hz]; exact hT) (by omega) (by omega) (fun j hj q1 q2 => ?_) (by omega)
               rcases Nat.lt_or_ge j i with y | y
               · exact hno j y q1 q2
               · have e : j = i := by omega
                 subst e
                 exact absurd ⟨q1, q2⟩ hz)
        · rw [ea9] at h42
          have hby := zit1 h42
          have e2p : A.D 2 i = A.op := by omega
          refine g_aload_n (i := 0) (by decide +kernel) rfl ?_
          refine g_aload_n (i := 0) (by decide +kernel) rfl ?_
          refine g_getr f_Rd_15 (by decide +kernel) (by omega) rfl rfl ?_
          refine g_iload_n (i := 1) (by decide +kernel) rfl ?_
          refine g_lald (j := i) (by decide +kernel) (by omega) rfl rfl (by omega) (by decide) ?_
          rw [e181]
          refine g_cVI (st := _) (c_Rd_namedInOpen hn hb hn0 hT hAi ho hpi si) k_Rd_namedInOpen l_Rd_172 (by decide +kernel) (by omega) rfl rfl rfl rfl (Nat.le_of_ble_eq_true rfl) (by decide) ⟨by decide, by decide⟩ ?_
          rintro a7_ σ7 ⟨ea7, hσ7⟩
          obtain rfl := hσ7.symm
          rw [znmd_bd] at ea7
          have nr7 := znmd_r A (A.sn i)
          refine g_istore_n (i := 2) (L' := [(0, _), (1, _), (2, _)]) (by decide +kernel) rfl rfl ?_
          refine g_iload_n (i := 2) (by decide +kernel) rfl ?_
          refine g_iconst (a := -1) (by decide +kernel) ?_
          refine g_icmp_eq (off := 8) (tgt := 66) (by decide +kernel) (by decide) ⟨by omega, by omega⟩ ⟨by omega, by omega⟩ (fun h58 => ?_) (fun h58 => ?_)
          · refine g_iconst (a := 0) (by decide +kernel) ?_
            refine g_retI (by decide +kernel) rfl (Or.inr ⟨rfl, by omega⟩) ⟨by decide, by decide⟩ ?_
            exact Or.inr ⟨rfl, ⟨i, by omega, e2p, hby, by omega⟩, i, hT⟩
          · refine g_iload_n (i := 2) (by decide +kernel) rfl ?_
            refine g_iload_n (i := 1) (by decide +kernel) rfl ?_
            refine g_icmp_ne (off := 5) (tgt := 68) (by decide +kernel) (by decide) ⟨by omega, by omega⟩ ⟨by omega, by omega⟩ (fun h63 => ?_) (fun h63 => ?_)
            · refine g_aload_n (i := 0) (by decide +kernel) rfl ?_
              refine g_getr f_Rd_22 (by decide +kernel) (by omega) rfl rfl ?_
              refine g_getr f_Rd_176 (by decide +kernel) (by omega) rfl rfl ?_
              refine g_iload_n (i := 1) (by decide +kernel) rfl ?_
              refine g_iload_n (i := 2) (by decide +kernel) rfl ?_
              refine g_iast (j := i) (by decide +kernel) (by omega) rfl rfl (by omega) (by decide) ?_
              refine g_iinc (i := 1) (b := 1) (L' := [(0, _), (1, _), (2, _)]) (by decide +kernel) rfl rfl rfl ?_
              refine g_goto (off := -74) (tgt := 7) (by decide +kernel) (by decide) ?_
              refine g_less [0, 1] rfl ?_
              first
                | (have hz : A.D 2 i = A.op := e2p
                   rw [ea7]
                   refine ih (i + 1) _ _ (by push_cast; rfl) ?_ (by omega) (by omega) (fun j hj q1 q2 => ?_) (by omega)
                   · rw [← zbd_s ⟨e2p, hby⟩]
                     exact hT.drf (fun a ha => by rw [zs_other (by omega)]) (b11.put (r := 5) (by decide))
                   · rcases Nat.lt_or_ge j i with y | y
                     · exact hno j y q1 q2
                     · have e : j = i := by omega
                       subst e
                       omega)
                | (have hz : ¬ (A.D 2 i = A.op ∧ zby (A.D 4 i) = true) := by
                     first
                     | (intro y; omega)
                     | (intro y
                        rw [ea9] at h42
                        exact zit0 h42 y.2)
                   refine ih (i + 1) _ _ (by push_cast; rfl) (by rw [zbd_no hz]; exact hT) (by omega) (by omega) (fun j hj q1 q2 => ?_) (by omega)
                   rcases Nat.lt_or_ge j i with y | y
                   · exact hno j y q1 q2
                   · have e : j = i := by omega
                     subst e
                     exact absurd ⟨q1, q2⟩ hz)
            · refine g_iconst (a := 0) (by decide +kernel) ?_
              refine g_retI (by decide +kernel) rfl (Or.inr ⟨rfl, by omega⟩) ⟨by decide, by decide⟩ ?_
              exact Or.inr ⟨rfl, ⟨i, by omega, e2p, hby, by omega⟩, i, hT⟩
theorem c_Rd_findOthers {G : zG} {n : Nat} {σ σ0 : zSt} {b : Nat → Int} {n0 : Nat} {A : zAb} (hn : 189 ≤ n) (hb : zBt b) (hn0 : n0 ≤ 600) (hR : zRc b n0 σ0 A σ) {o : Nat} (hA : zAi n0 A) (ho : A.op = (o : Int)) (hpar : ∀ j, j < zN A.D → A.D 2 j < (j : Int))  : Gm G y_Rd_findOthers m_Rd_findOthers 1 0 0 [vr G 179] n SH σ (zI n SH (fun a σ' => (a = 1 ∧ ¬ zbad A ∧ zRc b n0 σ0 (zAD A (zbd A (zN A.D))) σ') ∨ (a = 0 ∧ zbad A ∧ ∃ i, zRc b n0 σ0 (zAD A (zbd A i)) σ'))) := by
  refine g_enter (L := [(0, _)]) (by decide) rfl rfl rfl (Nat.le_of_ble_eq_true rfl) (fun X => ?_)
  have hq := hA.1
  have hG := hA.2.1
  have ob := hA.2.2.1
  have hN : zN A.D = (A.D 0 0).toNat := rfl
  have hD12 : A.D 0 0 ≤ 12 := hG.1.2.1
  obtain ⟨⟨a1, a2⟩, ⟨a3, a3b, a3c, a3d⟩, ⟨a4, a5, a6, a7, a8⟩, ⟨a9, a10⟩, a11, a12⟩ := id hR
  have e0 : σ 11 0 = A.D 0 0 := by rw [show σ 11 = A.D 0 from a11 0 (by decide)]
  have e2 : σ 13 = A.D 2 := a11 2 (by decide)
  have e4 : σ 15 = A.D 4 := a11 4 (by decide)
  have e5 : σ 16 = A.D 5 := a11 5 (by decide)
  have a4o : σ 179 10 = (o : Int) := by rw [a4]; exact ho
  refine g_aload_n (i := 0) (by decide +kernel) rfl ?_
  refine g_geti f_Rd_37 (by decide +kernel) (by omega) rfl rfl ?_
  refine g_iconst (a := 1) (by decide +kernel) ?_
  refine g_iadd (by decide +kernel) ?_
  refine g_istore_n (i := 1) (L' := [(0, _), (1, _)]) (by decide +kernel) rfl rfl ?_
  rw [a4o]
  refine w_Rd_findOthers hn hb hn0 hR hA ho hpar (zN A.D + 1) (o + 1) _ _ (by push_cast; rfl) ?_ (by omega) (by omega) (fun j hj q1 q2 => ?_) (by omega)
  · have hz : zbd A (o + 1) = A.D := by
      have : ∀ i, i ≤ o + 1 → zbd A i = A.D := by
        intro i
        induction i with
        | zero => intro _; exact zbd_0 A
        | succ i ih =>
          intro h
          rw [zbd_no (fun y => by have := hpar i (by omega); omega)]
          exact ih (by omega)
      exact this (o + 1) (Nat.le_refl _)
    rw [hz]
    exact hR
  · have := hpar j (by omega)
    omega
theorem w_Rd_hasRing {G : zG} {X : zX} {n : Nat} {σ σ0 : zSt} {b : Nat → Int} {n0 : Nat} {A : zAb} (hn : 189 ≤ n) (hb : zBt b) (hn0 : n0 ≤ 600) (hR : zRc b n0 σ0 A σ) {o : Nat} (hA : zAi n0 A) (ho : A.op = (o : Int)) (hpar : ∀ j, j < zN A.D → A.D 2 j < (j : Int)) (hcl : ∀ j, j < zN A.D → A.D 2 j = A.op → zby (A.D 4 j) = true → 0 ≤ A.D 5 j ∧ (A.D 5 j).toNat < zN A.D ∧ A.D 2 (A.D 5 j).toNat = A.op)  : ∀ (m : Nat) (i : Nat) (x1 : Int), x1 = (i : Int) → o < i → i ≤ zN A.D → (∀ j, j < i → A.D 2 j = A.op → zby (A.D 4 j) = true → zlead (A.D 4) (A.D 5) (j : Int) 12 (A.D 5 j) = false) → zN A.D < i + m → Go G X m_Rd_hasRing (2, 0, 0, 0, 0) n SH σ 7 [(0, vr G 179), (1, vi x1)] [] (zI n SH (fun a σ' => ((a = 1 ∧ zRng A) ∨ (a = 0 ∧ ¬ zRng A)) ∧ σ' = σ)) := by
  intro m
  induction m with
  | zero => intro i x1 e1 hoi hi hno hm; exact absurd hm (by omega)
  | succ m ih =>
    intro i x1 e1 hoi hi hno hm
    subst e1
    have hq := hA.1
    have hG := hA.2.1
    have ob := hA.2.2.1
    have hN : zN A.D = (A.D 0 0).toNat := rfl
    have hD12 : A.D 0 0 ≤ 12 := hG.1.2.1
    obtain ⟨⟨a1, a2⟩, ⟨a3, a3b, a3c, a3d⟩, ⟨a4, a5, a6, a7, a8⟩, ⟨a9, a10⟩, a11, a12⟩ := id hR
    have e0 : σ 11 0 = A.D 0 0 := by rw [show σ 11 = A.D 0 from a11 0 (by decide)]
    have e2 : σ 13 = A.D 2 := a11 2 (by decide)
    have e4 : σ 15 = A.D 4 := a11 4 (by decide)
    have e5 : σ 16 = A.D 5 := a11 5 (by decide)
    have a4o : σ 179 10 = (o : Int) := by rw [a4]; exact ho
    have gd : zGood σ 11 := zGood_rows a11 hG
    refine g_iload_n (i := 1) (by decide +kernel) rfl ?_
    refine g_aload_n (i := 0) (by decide +kernel) rfl ?_
    refine g_getr f_Rd_22 (by decide +kernel) (by omega) rfl rfl ?_
    refine g_geti f_Rd_100 (by decide +kernel) (by omega) rfl rfl ?_
    refine g_icmp_ge (off := 58) (tgt := 73) (by decide +kernel) (by decide) ⟨by omega, by omega⟩ ⟨by omega, by omega⟩ (fun h15 => ?_) (fun h15 => ?_)
    · refine g_iconst (a := 0) (by decide +kernel) ?_
      refine g_retI (by decide +kernel) rfl (Or.inr ⟨rfl, by omega⟩) ⟨by decide, by decide⟩ ?_
      refine ⟨Or.inr ⟨rfl, fun ⟨j, j1, j2, j3, j4⟩ => ?_⟩, rfl⟩
      rw [hno j (by omega) j2 j3] at j4
      exact absurd j4 (by decide)
    · have e2i : σ 13 i = A.D 2 i := by rw [e2]
      have g2 : -1 ≤ A.D 2 i ∧ A.D 2 i ≤ 11 := (hG.2.1 i (by omega)).2.1
      refine g_aload_n (i := 0) (by decide +kernel) rfl ?_
      refine g_getr f_Rd_22 (by decide +kernel) (by omega) rfl rfl ?_
      refine g_getr f_Rd_166 (by decide +kernel) (by omega) rfl rfl ?_
      refine g_iload_n (i := 1) (by decide +kernel) rfl ?_
      refine g_iald (j := i) (by decide +kernel) (by omega) rfl rfl (by omega) (by decide) ?_
      refine g_aload_n (i := 0) (by decide +kernel) rfl ?_
      refine g_geti f_Rd_37 (by decide +kernel) (by omega) rfl rfl ?_
      refine g_icmp_ne (off := 36) (tgt := 67) (by decide +kernel) (by decide) ⟨by omega, by omega⟩ ⟨by omega, by omega⟩ (fun h31 => ?_) (fun h31 => ?_)
      · refine g_iinc (i := 1) (b := 1) (L' := [(0, _), (1, _)]) (by decide +kernel) rfl rfl rfl ?_
        refine g_goto (off := -63) (tgt := 7) (by decide +kernel) (by decide) ?_
        refine ih (i + 1) _ (by push_cast; rfl) (by omega) (by omega) (fun j hj q1 q2 => ?_) (by omega)
        rcases Nat.lt_or_ge j i with y | y
        · exact hno j y q1 q2
        · have e : j = i := by omega
          subst e
          first
          | (exfalso; omega)
          | (rw [ea7] at h62
             exact Bool.eq_false_iff.mpr (zit0 h62))
          | (rw [ea9] at h42
             exact absurd q2 (zit0 h42))
      · refine g_aload_n (i := 0) (by decide +kernel) rfl ?_
        refine g_getr f_Rd_22 (by decide +kernel) (by omega) rfl rfl ?_
        refine g_iload_n (i := 1) (by decide +kernel) rfl ?_
        refine g_cVI (st := _) (c_Sh_startsByAnother (b := 11) (k := i) hn sh_11 gd (by omega)) k_Sh_startsByAnother l_Rd_169 (by decide +kernel) (by omega) rfl rfl rfl rfl (Nat.le_of_ble_eq_true rfl) (by decide) ⟨by decide, by decide⟩ ?_
        rintro a9_ σ9 ⟨ea9, hσ9⟩
        obtain rfl := hσ9.symm
        have ea9 : a9_ = (if zby (σ 15 i) = true then 1 else 0) := ea9
        rw [e4] at ea9
        have ea : a9_ = 0 ∨ a9_ = 1 := by rw [ea9]; split <;> omega
        refine g_if_eq (off := 25) (tgt := 67) (by decide +kernel) (by decide) ⟨by omega, by omega⟩ (fun h42 => ?_) (fun h42 => ?_)
        · refine g_iinc (i := 1) (b := 1) (L' := [(0, _), (1, _)]) (by decide +kernel) rfl rfl rfl ?_
          refine g_goto (off := -63) (tgt := 7) (by decide +kernel) (by decide) ?_
          refine ih (i + 1) _ (by push_cast; rfl) (by omega) (by omega) (fun j hj q1 q2 => ?_) (by omega)
          rcases Nat.lt_or_ge j i with y | y
          · exact hno j y q1 q2
          · have e : j = i := by omega
            subst e
            first
            | (exfalso; omega)
            | (rw [ea7] at h62
               exact Bool.eq_false_iff.mpr (zit0 h62))
            | (rw [ea9] at h42
               exact absurd q2 (zit0 h42))
        · rw [ea9] at h42
          have hby := zit1 h42
          have e2p : A.D 2 i = A.op := by omega
          have c5 := hcl i (by omega) e2p hby
          have e5i : σ 16 i = A.D 5 i := by rw [e5]
          refine g_aload_n (i := 0) (by decide +kernel) rfl ?_
          refine g_getr f_Rd_22 (by decide +kernel) (by omega) rfl rfl ?_
          refine g_aload_n (i := 0) (by decide +kernel) rfl ?_
          refine g_getr f_Rd_22 (by decide +kernel) (by omega) rfl rfl ?_
          refine g_getr f_Rd_176 (by decide +kernel) (by omega) rfl rfl ?_
          refine g_iload_n (i := 1) (by decide +kernel) rfl ?_
          refine g_iald (j := i) (by decide +kernel) (by omega) rfl rfl (by omega) (by decide) ?_
          refine g_iload_n (i := 1) (by decide +kernel) rfl ?_
          rw [e5i]
          refine g_cVI (st := _) (c_Sh_startLeadsTo (b := 11) (x := A.D 5 i) (q := (i : Int)) hn sh_11 gd ⟨by omega, by omega⟩ (D := fun y => 0 ≤ y ∧ y.toNat < zN A.D ∧ A.D 2 y.toNat = A.op) (fun y hy => ⟨hy.1, by omega, fun hz => by have hz : zby (σ 15 y.toNat) = true := hz; show 0 ≤ σ 16 y.toNat ∧ (σ 16 y.toNat).toNat < zN A.D ∧ A.D 2 (σ 16 y.toNat).toNat = A.op; rw [e4] at hz; rw [e5]; exact hcl _ hy.2.1 hy.2.2 hz⟩) c5) k_Sh_startLeadsTo l_Rd_179 (by decide +kernel) (by omega) rfl rfl rfl rfl (Nat.le_of_ble_eq_true rfl) (by decide) ⟨by decide, by decide⟩ ?_
          rintro a7_ σ7 ⟨ea7, hσ7⟩
          obtain rfl := hσ7.symm
          have ea7 : a7_ = (if zlead (σ 15) (σ 16) (i : Int) 12 (A.D 5 i) = true then 1 else 0) := ea7
          rw [e4, e5] at ea7
          have eb : a7_ = 0 ∨ a7_ = 1 := by rw [ea7]; split <;> omega
          refine g_if_eq (off := 5) (tgt := 67) (by decide +kernel) (by decide) ⟨by omega, by omega⟩ (fun h62 => ?_) (fun h62 => ?_)
          · refine g_iinc (i := 1) (b := 1) (L' := [(0, _), (1, _)]) (by decide +kernel) rfl rfl rfl ?_
            refine g_goto (off := -63) (tgt := 7) (by decide +kernel) (by decide) ?_
            refine ih (i + 1) _ (by push_cast; rfl) (by omega) (by omega) (fun j hj q1 q2 => ?_) (by omega)
            rcases Nat.lt_or_ge j i with y | y
            · exact hno j y q1 q2
            · have e : j = i := by omega
              subst e
              first
              | (exfalso; omega)
              | (rw [ea7] at h62
                 exact Bool.eq_false_iff.mpr (zit0 h62))
              | (rw [ea9] at h42
                 exact absurd q2 (zit0 h42))
          · refine g_iconst (a := 1) (by decide +kernel) ?_
            refine g_retI (by decide +kernel) rfl (Or.inr ⟨rfl, by omega⟩) ⟨by decide, by decide⟩ ?_
            rw [ea7] at h62
            exact ⟨Or.inl ⟨rfl, i, by omega, e2p, hby, zit1 h62⟩, rfl⟩
theorem c_Rd_hasRing {G : zG} {n : Nat} {σ σ0 : zSt} {b : Nat → Int} {n0 : Nat} {A : zAb} (hn : 189 ≤ n) (hb : zBt b) (hn0 : n0 ≤ 600) (hR : zRc b n0 σ0 A σ) {o : Nat} (hA : zAi n0 A) (ho : A.op = (o : Int)) (hpar : ∀ j, j < zN A.D → A.D 2 j < (j : Int)) (hcl : ∀ j, j < zN A.D → A.D 2 j = A.op → zby (A.D 4 j) = true → 0 ≤ A.D 5 j ∧ (A.D 5 j).toNat < zN A.D ∧ A.D 2 (A.D 5 j).toNat = A.op)  : Gm G y_Rd_hasRing m_Rd_hasRing 2 0 0 [vr G 179] n SH σ (zI n SH (fun a σ' => ((a = 1 ∧ zRng A) ∨ (a = 0 ∧ ¬ zRng A)) ∧ σ' = σ)) := by
  refine g_enter (L := [(0, _)]) (by decide) rfl rfl rfl (Nat.le_of_ble_eq_true rfl) (fun X => ?_)
  have hq := hA.1
  have hG := hA.2.1
  have ob := hA.2.2.1
  have hN : zN A.D = (A.D 0 0).toNat := rfl
  have hD12 : A.D 0 0 ≤ 12 := hG.1.2.1
  obtain ⟨⟨a1, a2⟩, ⟨a3, a3b, a3c, a3d⟩, ⟨a4, a5, a6, a7, a8⟩, ⟨a9, a10⟩, a11, a12⟩ := id hR
  have e0 : σ 11 0 = A.D 0 0 := by rw [show σ 11 = A.D 0 from a11 0 (by decide)]
  have e2 : σ 13 = A.D 2 := a11 2 (by decide)
  have e4 : σ 15 = A.D 4 := a11 4 (by decide)
  have e5 : σ 16 = A.D 5 := a11 5 (by decide)
  have a4o : σ 179 10 = (o : Int) := by rw [a4]; exact ho
  refine g_aload_n (i := 0) (by decide +kernel) rfl ?_
  refine g_geti f_Rd_37 (by decide +kernel) (by omega) rfl rfl ?_
  refine g_iconst (a := 1) (by decide +kernel) ?_
  refine g_iadd (by decide +kernel) ?_
  refine g_istore_n (i := 1) (L' := [(0, _), (1, _)]) (by decide +kernel) rfl rfl ?_
  rw [a4o]
  refine w_Rd_hasRing hn hb hn0 hR hA ho hpar hcl (zN A.D + 1) (o + 1) _ (by push_cast; rfl) (by omega) (by omega) (fun j hj q1 q2 => ?_) (by omega)
  have := hpar j (by omega)
  omega
