/-- a number behind those that go -/
def zren (w : Nat → Bool) (x : Int) : Int := if x = -1 then -1 else x - (zcnt w x.toNat : Int)
/-- clip f comes to place t -/
def zCC (σ σ' : zSt) (b f t : Nat) (w : Nat → Bool) : Prop := σ' (b + 1) = zu (σ (b + 1)) t (σ (b + 1) f) ∧ σ' (b + 2) = zu (σ (b + 2)) t (zren w (σ (b + 2) f)) ∧ σ' (b + 3) = zu (σ (b + 3)) t (σ (b + 3) f) ∧ σ' (b + 4) = zu (σ (b + 4)) t (σ (b + 4) f) ∧ σ' (b + 5) = zu (σ (b + 5)) t (zren w (σ (b + 5) f)) ∧ σ' (b + 6) = zu (σ (b + 6)) t (σ (b + 6) f) ∧ (∀ j, σ' (b + 7) j = if 9 * t ≤ j ∧ j < 9 * t + 9 then σ (b + 7) (9 * f + (j - 9 * t)) else σ (b + 7) j) ∧ ∀ a, (a ≤ b ∨ b + 8 ≤ a) → σ' a = σ a
theorem c_Sh_copyClip {G : zG} {n : Nat} {σ : zSt} {b : Nat} {f t N : Nat} {w : Nat → Bool} (hn : 189 ≤ n) (hS : zSw SH b) (hg : zGood σ b) (hN : N ≤ 12) (hf : f < 12) (ht : t < 12) (h2 : -1 ≤ σ (b + 2) f ∧ σ (b + 2) f < N) (h5 : -1 ≤ σ (b + 5) f ∧ σ (b + 5) f < N) : Gm G y_Sh_copyClip m_Sh_copyClip 2 0 0 [vr G b, vi f, vi t, vi ((zbits w N : Nat) : Int)] n SH σ (zV n SH (fun σ' => zCC σ σ' b f t w)) := by
  refine g_enter (L := [(0, _), (1, _), (2, _), (3, _)]) (by decide) rfl rfl rfl (Nat.le_of_ble_eq_true rfl) (fun X => ?_)
  have hb := hS.1
  have hc := hg.1
  refine g_aload_n (i := 0) (by decide +kernel) rfl ?_
  refine g_getr f_Sh_9 (by decide +kernel) (by omega) hS.a0 rfl ?_
  refine g_iload_n (i := 2) (by decide +kernel) rfl ?_
  refine g_aload_n (i := 0) (by decide +kernel) rfl ?_
  refine g_getr f_Sh_9 (by decide +kernel) (by omega) hS.a0 rfl ?_
  refine g_iload_n (i := 1) (by decide +kernel) rfl ?_
  refine g_iald (by decide +kernel) (by omega) hS.a1 rfl (by omega) (by decide) ?_
  refine g_iast (by decide +kernel) (by omega) hS.a1 rfl (by omega) (by decide) ?_
  refine g_aload_n (i := 0) (by decide +kernel) rfl ?_
  refine g_getr f_Sh_15 (by decide +kernel) (by omega) hS.a0 rfl ?_
  refine g_iload_n (i := 2) (by decide +kernel) rfl ?_
  refine g_aload_n (i := 0) (by decide +kernel) rfl ?_
  refine g_getr f_Sh_15 (by decide +kernel) (by omega) hS.a0 rfl ?_
  refine g_iload_n (i := 1) (by decide +kernel) rfl ?_
  refine g_iald (by decide +kernel) (by omega) hS.a2 rfl (by omega) (by decide) ?_
  refine g_iload_n (i := 3) (by decide +kernel) rfl ?_
  refine g_cSI (st := [vi (t : Int), vr G (b + 2)]) (c_Sh_renumbered (x := σ (b + 2) f) (p := w) (N := N) hN h2) k_Sh_renumbered l_Sh_86 (by decide +kernel) rfl (by rw [zs_other (by omega)]; rfl) (Nat.le_of_ble_eq_true rfl) (by decide) ⟨by decide, by decide⟩ ?_
  rintro a σ1 ⟨rfl, hσ⟩
  obtain rfl := hσ.symm
  refine g_iast (by decide +kernel) (by omega) hS.a2 rfl (by omega) (by decide) ?_
  refine g_aload_n (i := 0) (by decide +kernel) rfl ?_
  refine g_getr f_Sh_18 (by decide +kernel) (by omega) hS.a0 rfl ?_
  refine g_iload_n (i := 2) (by decide +kernel) rfl ?_
  refine g_aload_n (i := 0) (by decide +kernel) rfl ?_
  refine g_getr f_Sh_18 (by decide +kernel) (by omega) hS.a0 rfl ?_
  refine g_iload_n (i := 1) (by decide +kernel) rfl ?_
  refine g_iald (by decide +kernel) (by omega) hS.a3 rfl (by omega) (by decide) ?_
  refine g_iast (by decide +kernel) (by omega) hS.a3 rfl (by omega) (by decide) ?_
  refine g_aload_n (i := 0) (by decide +kernel) rfl ?_
  refine g_iload_n (i := 2) (by decide +kernel) rfl ?_
  refine g_aload_n (i := 0) (by decide +kernel) rfl ?_
  refine g_getr f_Sh_21 (by decide +kernel) (by omega) hS.a0 rfl ?_
  refine g_iload_n (i := 1) (by decide +kernel) rfl ?_
  refine g_iald (by decide +kernel) (by omega) hS.a4 rfl (by omega) (by decide) ?_
  refine g_aload_n (i := 0) (by decide +kernel) rfl ?_
  refine g_getr f_Sh_24 (by decide +kernel) (by omega) hS.a0 rfl ?_
  refine g_iload_n (i := 1) (by decide +kernel) rfl ?_
  refine g_iald (by decide +kernel) (by omega) hS.a5 rfl (by omega) (by decide) ?_
  refine g_iload_n (i := 3) (by decide +kernel) rfl ?_
  refine g_cSI (st := [vi ((zs (zs (zs σ (b + 1) t (σ (b + 1) f)) (b + 2) t (zren w (σ (b + 2) f))) (b + 3) t (σ (b + 3) f)) (b + 4) f), vi (t : Int), vr G b]) (c_Sh_renumbered (x := σ (b + 5) f) (p := w) (N := N) hN h5) k_Sh_renumbered l_Sh_86 (by decide +kernel) rfl (by simp [zs_app, zren]) (Nat.le_of_ble_eq_true rfl) (by decide) ⟨by decide, by decide⟩ ?_
  rintro a σ1 ⟨rfl, hσ⟩
  obtain rfl := hσ.symm
  refine g_aload_n (i := 0) (by decide +kernel) rfl ?_
  refine g_getr f_Sh_27 (by decide +kernel) (by omega) hS.a0 rfl ?_
  refine g_iload_n (i := 1) (by decide +kernel) rfl ?_
  refine g_iald (by decide +kernel) (by omega) hS.a6 rfl (by omega) (by decide) ?_
  refine g_cVV (st := []) (c_Sh_putStart hn hS ht) k_Sh_putStart l_Sh_69 (by decide +kernel) (by omega) hS.a0 rfl rfl rfl (Nat.le_of_ble_eq_true rfl) (by decide) ⟨by decide, by decide⟩ ?_
  rintro σ1 hσ
  obtain rfl := hσ.symm
  refine g_aload_n (i := 0) (by decide +kernel) rfl ?_
  refine g_getr f_Sh_30 (by decide +kernel) (by omega) hS.a0 rfl ?_
  refine g_iload_n (i := 1) (by decide +kernel) rfl ?_
  refine g_bipush (a := 9) (by decide +kernel) (by decide) ?_
  refine g_imul (by decide +kernel) ?_
  refine g_aload_n (i := 0) (by decide +kernel) rfl ?_
  refine g_getr f_Sh_30 (by decide +kernel) (by omega) hS.a0 rfl ?_
  refine g_iload_n (i := 2) (by decide +kernel) rfl ?_
  refine g_bipush (a := 9) (by decide +kernel) (by decide) ?_
  refine g_imul (by decide +kernel) ?_
  refine g_bipush (a := 9) (by decide +kernel) (by decide) ?_
  refine g_copy (sp := 9 * f) (dp := 9 * t) (c := 9) ac_l (by decide +kernel) (by omega) (by omega) hS.a7 hS.a7 (by omega) (by omega) rfl (by omega) (by omega) ⟨by decide, by decide⟩ (by decide) (by decide) ?_
  refine g_retV (by decide +kernel) rfl ⟨by decide, by decide⟩ ?_
  refine ⟨?_, ?_, ?_, ?_, ?_, ?_, fun j => ?_, fun a ha => ?_⟩
  · rw [zcp_other (by omega)]; simp [zs_app, zren]
  · rw [zcp_other (by omega)]; simp [zs_app, zren]
  · rw [zcp_other (by omega)]; simp [zs_app, zren]
  · rw [zcp_other (by omega)]; simp [zs_app, zren]
  · rw [zcp_other (by omega)]; simp [zs_app, zren]
  · rw [zcp_other (by omega)]; simp [zs_app, zren]
  · rw [zcp_app, if_pos rfl]
    simp [zs_app]
  · rw [zcp_other (by omega), zs_other (by omega), zs_other (by omega), zs_other (by omega), zs_other (by omega), zs_other (by omega), zs_other (by omega)]
/-- the places behind one that goes -/
def zpl (σ : zSt) (b k : Nat) (j : Nat) : Int := if σ (b + 2) j = σ (b + 2) k ∧ σ (b + 3) k < σ (b + 3) j then σ (b + 3) j - 1 else σ (b + 3) j
/-- a clip and all within it are gone -/
def zDrop (σ σ' : zSt) (b k : Nat) : Prop :=
  (∀ i, i < (σ b 0).toNat → zwi (σ (b + 2)) k 12 i = false → (let t := zcnt (fun j => !(zwi (σ (b + 2)) k 12 j)) i
    σ' (b + 1) t = σ (b + 1) i ∧ σ' (b + 2) t = zren (fun j => zwi (σ (b + 2)) k 12 j) (σ (b + 2) i) ∧ σ' (b + 3) t = zpl σ b k i ∧ σ' (b + 4) t = σ (b + 4) i ∧ σ' (b + 5) t = zren (fun j => zwi (σ (b + 2)) k 12 j) (σ (b + 5) i) ∧ σ' (b + 6) t = σ (b + 6) i ∧ ∀ u, u < 9 → σ' (b + 7) (9 * t + u) = σ (b + 7) (9 * i + u))) ∧
  (∀ j, zcnt (fun j => !(zwi (σ (b + 2)) k 12 j)) (σ b 0).toNat ≤ j → σ' (b + 1) j = σ (b + 1) j ∧ σ' (b + 2) j = σ (b + 2) j ∧ σ' (b + 3) j = (if j < (σ b 0).toNat then zpl σ b k j else σ (b + 3) j) ∧ σ' (b + 4) j = σ (b + 4) j ∧ σ' (b + 5) j = σ (b + 5) j ∧ σ' (b + 6) j = σ (b + 6) j ∧ ∀ u, u < 9 → σ' (b + 7) (9 * j + u) = σ (b + 7) (9 * j + u)) ∧
  σ' b = zu (σ b) 0 (zcnt (fun j => !(zwi (σ (b + 2)) k 12 j)) (σ b 0).toNat : Int) ∧ ∀ a, (a < b ∨ b + 8 ≤ a) → σ' a = σ a
theorem zcnt_lt {p : Nat → Bool} {q : Nat} : ∀ {i : Nat}, q < i → p q = true → zcnt p q < zcnt p i
  | 0, h, _ => by omega
  | i + 1, h, hp => by
    have e : zcnt p (i + 1) = zcnt p i + (if p i = true then 1 else 0) := rfl
    rcases Nat.lt_or_ge q i with z | z
    · have := zcnt_lt z hp
      rw [e]; omega
    · have ez : q = i := by omega
      subst ez
      rw [e, if_pos hp]; omega
theorem zren_in {w : Nat → Bool} {x : Int} (h : -1 ≤ x ∧ x ≤ 11) : -1 ≤ zren w x ∧ zren w x ≤ 11 := by
  unfold zren
  have := zcnt_le w x.toNat
  split <;> omega
theorem zDrop_step1 {σ τ σ1 : zSt} {b k i : Nat} (t1 : ∀ q, q < i → zwi (σ (b + 2)) k 12 q = false → (let t := zcnt (fun j => !(zwi (σ (b + 2)) k 12 j)) q
    τ (b + 1) t = σ (b + 1) q ∧ τ (b + 2) t = zren (fun j => zwi (σ (b + 2)) k 12 j) (σ (b + 2) q) ∧ τ (b + 3) t = zpl σ b k q ∧ τ (b + 4) t = σ (b + 4) q ∧ τ (b + 5) t = zren (fun j => zwi (σ (b + 2)) k 12 j) (σ (b + 5) q) ∧ τ (b + 6) t = σ (b + 6) q ∧ ∀ u, u < 9 → τ (b + 7) (9 * t + u) = σ (b + 7) (9 * q + u)))
    {N : Nat} (t2 : ∀ j, zcnt (fun j => !(zwi (σ (b + 2)) k 12 j)) i ≤ j → τ (b + 1) j = σ (b + 1) j ∧ τ (b + 2) j = σ (b + 2) j ∧ τ (b + 3) j = (if j < N then zpl σ b k j else σ (b + 3) j) ∧ τ (b + 4) j = σ (b + 4) j ∧ τ (b + 5) j = σ (b + 5) j ∧ τ (b + 6) j = σ (b + 6) j ∧ ∀ u, u < 9 → τ (b + 7) (9 * j + u) = σ (b + 7) (9 * j + u))
    (hw : zwi (σ (b + 2)) k 12 i = false) (g2 : τ (b + 1) i = σ (b + 1) i ∧ τ (b + 2) i = σ (b + 2) i ∧ τ (b + 3) i = (if i < N then zpl σ b k i else σ (b + 3) i) ∧ τ (b + 4) i = σ (b + 4) i ∧ τ (b + 5) i = σ (b + 5) i ∧ τ (b + 6) i = σ (b + 6) i ∧ ∀ u, u < 9 → τ (b + 7) (9 * i + u) = σ (b + 7) (9 * i + u))
    (c1 : σ1 (b + 1) = zu (τ (b + 1)) (zcnt (fun j => !(zwi (σ (b + 2)) k 12 j)) i) (τ (b + 1) i)) (c2 : σ1 (b + 2) = zu (τ (b + 2)) (zcnt (fun j => !(zwi (σ (b + 2)) k 12 j)) i) (zren (fun j => zwi (σ (b + 2)) k 12 j) (τ (b + 2) i))) (c3 : σ1 (b + 3) = zu (τ (b + 3)) (zcnt (fun j => !(zwi (σ (b + 2)) k 12 j)) i) (τ (b + 3) i)) (c4 : σ1 (b + 4) = zu (τ (b + 4)) (zcnt (fun j => !(zwi (σ (b + 2)) k 12 j)) i) (τ (b + 4) i)) (c5 : σ1 (b + 5) = zu (τ (b + 5)) (zcnt (fun j => !(zwi (σ (b + 2)) k 12 j)) i) (zren (fun j => zwi (σ (b + 2)) k 12 j) (τ (b + 5) i))) (c6 : σ1 (b + 6) = zu (τ (b + 6)) (zcnt (fun j => !(zwi (σ (b + 2)) k 12 j)) i) (τ (b + 6) i))
    (c7 : ∀ j, σ1 (b + 7) j = if 9 * (zcnt (fun j => !(zwi (σ (b + 2)) k 12 j)) i) ≤ j ∧ j < 9 * (zcnt (fun j => !(zwi (σ (b + 2)) k 12 j)) i) + 9 then τ (b + 7) (9 * i + (j - 9 * (zcnt (fun j => !(zwi (σ (b + 2)) k 12 j)) i))) else τ (b + 7) j) (hN : i < N) :
    ∀ q, q < i + 1 → zwi (σ (b + 2)) k 12 q = false → (let t := zcnt (fun j => !(zwi (σ (b + 2)) k 12 j)) q
    σ1 (b + 1) t = σ (b + 1) q ∧ σ1 (b + 2) t = zren (fun j => zwi (σ (b + 2)) k 12 j) (σ (b + 2) q) ∧ σ1 (b + 3) t = zpl σ b k q ∧ σ1 (b + 4) t = σ (b + 4) q ∧ σ1 (b + 5) t = zren (fun j => zwi (σ (b + 2)) k 12 j) (σ (b + 5) q) ∧ σ1 (b + 6) t = σ (b + 6) q ∧ ∀ u, u < 9 → σ1 (b + 7) (9 * t + u) = σ (b + 7) (9 * q + u)) := by
  intro q hq hqw
  dsimp only
  obtain ⟨a1, a2, a3, a4, a5, a6, a7⟩ := g2
  rcases Nat.lt_or_ge q i with z | z
  · have hlt : zcnt (fun j => !(zwi (σ (b + 2)) k 12 j)) q < zcnt (fun j => !(zwi (σ (b + 2)) k 12 j)) i := zcnt_lt z (by simp [hqw])
    obtain ⟨b1, b2, b3, b4, b5, b6, b7⟩ := t1 q z hqw
    rw [c1, c2, c3, c4, c5, c6, zu_ne (by omega), zu_ne (by omega), zu_ne (by omega), zu_ne (by omega), zu_ne (by omega), zu_ne (by omega)]
    refine ⟨b1, b2, b3, b4, b5, b6, fun u hu => ?_⟩
    rw [c7, if_neg (by omega)]
    exact b7 u hu
  · have e : q = i := by omega
    subst e
    rw [c1, c2, c3, c4, c5, c6, zu_eq, zu_eq, zu_eq, zu_eq, zu_eq, zu_eq]
    refine ⟨a1, by rw [a2], by rw [a3, if_pos hN], a4, by rw [a5], a6, fun u hu => ?_⟩
    rw [c7, if_pos (by omega), show ∀ x, 9 * q + (9 * x + u - 9 * x) = 9 * q + u from fun x => by omega]
    exact a7 u hu
theorem zDrop_step2 {σ τ σ1 : zSt} {b k i N : Nat} (t2 : ∀ j, zcnt (fun j => !(zwi (σ (b + 2)) k 12 j)) i ≤ j → τ (b + 1) j = σ (b + 1) j ∧ τ (b + 2) j = σ (b + 2) j ∧ τ (b + 3) j = (if j < N then zpl σ b k j else σ (b + 3) j) ∧ τ (b + 4) j = σ (b + 4) j ∧ τ (b + 5) j = σ (b + 5) j ∧ τ (b + 6) j = σ (b + 6) j ∧ ∀ u, u < 9 → τ (b + 7) (9 * j + u) = σ (b + 7) (9 * j + u))
    (hw : zwi (σ (b + 2)) k 12 i = false) {v1 v2 v3 v4 v5 v6 : Int} (c1 : σ1 (b + 1) = zu (τ (b + 1)) (zcnt (fun j => !(zwi (σ (b + 2)) k 12 j)) i) v1) (c2 : σ1 (b + 2) = zu (τ (b + 2)) (zcnt (fun j => !(zwi (σ (b + 2)) k 12 j)) i) v2) (c3 : σ1 (b + 3) = zu (τ (b + 3)) (zcnt (fun j => !(zwi (σ (b + 2)) k 12 j)) i) v3) (c4 : σ1 (b + 4) = zu (τ (b + 4)) (zcnt (fun j => !(zwi (σ (b + 2)) k 12 j)) i) v4) (c5 : σ1 (b + 5) = zu (τ (b + 5)) (zcnt (fun j => !(zwi (σ (b + 2)) k 12 j)) i) v5) (c6 : σ1 (b + 6) = zu (τ (b + 6)) (zcnt (fun j => !(zwi (σ (b + 2)) k 12 j)) i) v6)
    {g : Nat → Int} (c7 : ∀ j, σ1 (b + 7) j = if 9 * (zcnt (fun j => !(zwi (σ (b + 2)) k 12 j)) i) ≤ j ∧ j < 9 * (zcnt (fun j => !(zwi (σ (b + 2)) k 12 j)) i) + 9 then g j else τ (b + 7) j) :
    ∀ j, zcnt (fun j => !(zwi (σ (b + 2)) k 12 j)) (i + 1) ≤ j → σ1 (b + 1) j = σ (b + 1) j ∧ σ1 (b + 2) j = σ (b + 2) j ∧ σ1 (b + 3) j = (if j < N then zpl σ b k j else σ (b + 3) j) ∧ σ1 (b + 4) j = σ (b + 4) j ∧ σ1 (b + 5) j = σ (b + 5) j ∧ σ1 (b + 6) j = σ (b + 6) j ∧ ∀ u, u < 9 → σ1 (b + 7) (9 * j + u) = σ (b + 7) (9 * j + u) := by
  intro j hj
  rw [zcnt_t (by simp [hw])] at hj
  obtain ⟨b1, b2, b3, b4, b5, b6, b7⟩ := t2 j (by omega)
  rw [c1, c2, c3, c4, c5, c6, zu_ne (by omega), zu_ne (by omega), zu_ne (by omega), zu_ne (by omega), zu_ne (by omega), zu_ne (by omega)]
  refine ⟨b1, b2, b3, b4, b5, b6, fun u hu => ?_⟩
  rw [c7, if_neg (by omega)]
  exact b7 u hu
theorem zCC_good {τ σ1 : zSt} {b f t : Nat} {v2 v5 : Int} (tg : zGood τ b) (hf : f < 12) (ht : t < 12) (c1 : σ1 (b + 1) = zu (τ (b + 1)) t (τ (b + 1) f)) (c2 : σ1 (b + 2) = zu (τ (b + 2)) t v2) (c3 : σ1 (b + 3) = zu (τ (b + 3)) t (τ (b + 3) f)) (c4 : σ1 (b + 4) = zu (τ (b + 4)) t (τ (b + 4) f)) (c5 : σ1 (b + 5) = zu (τ (b + 5)) t v5) (c6 : σ1 (b + 6) = zu (τ (b + 6)) t (τ (b + 6) f))
    (c7 : ∀ j, σ1 (b + 7) j = if 9 * t ≤ j ∧ j < 9 * t + 9 then τ (b + 7) (9 * f + (j - 9 * t)) else τ (b + 7) j) (c8 : ∀ a, (a ≤ b ∨ b + 8 ≤ a) → σ1 a = τ a) (h2 : -1 ≤ v2 ∧ v2 ≤ 11) (h5 : -1 ≤ v5 ∧ v5 ≤ 11) : zGood σ1 b := by
  obtain ⟨g1, g2, g3, g4⟩ := tg
  refine ⟨by rw [c8 b (by omega)]; exact g1, fun k hk => ?_, fun k hk => ?_, fun i hi => by rw [c8 (b + 8) (by omega), c8 (b + 9) (by omega)]; exact g4 i hi⟩
  · rw [c1, c2, c3, c4, c5, c6]
    by_cases e : k = t
    · subst e
      rw [zu_eq, zu_eq, zu_eq, zu_eq, zu_eq, zu_eq]
      have := g2 f hf
      exact ⟨this.1, h2, this.2.2.1, this.2.2.2.1, h5, this.2.2.2.2.2⟩
    · rw [zu_ne e, zu_ne e, zu_ne e, zu_ne e, zu_ne e, zu_ne e]
      exact g2 k hk
  · rw [c7]
    split
    · exact g3 _ (by omega)
    · exact g3 k hk
theorem w2_Sh_drop {G : zG} {X : zX} {n : Nat} {σ : zSt} {b : Nat} {k : Nat} (hn : 189 ≤ n) (hS : zSw SH b) (hg : zGood σ b) (ht : zTree σ b) (hk : k < (σ b 0).toNat) (ho : ∀ j, j < (σ b 0).toNat → σ (b + 5) j < σ b 0) : ∀ (m : Nat) (i : Nat) (x3 x4 : Int) (τ : zSt), x4 = (i : Int) → x3 = (zcnt (fun j => !(zwi (σ (b + 2)) k 12 j)) i : Int) → (∀ q, q < i → zwi (σ (b + 2)) k 12 q = false → (let t := zcnt (fun j => !(zwi (σ (b + 2)) k 12 j)) q
    τ (b + 1) t = σ (b + 1) q ∧ τ (b + 2) t = zren (fun j => zwi (σ (b + 2)) k 12 j) (σ (b + 2) q) ∧ τ (b + 3) t = zpl σ b k q ∧ τ (b + 4) t = σ (b + 4) q ∧ τ (b + 5) t = zren (fun j => zwi (σ (b + 2)) k 12 j) (σ (b + 5) q) ∧ τ (b + 6) t = σ (b + 6) q ∧ ∀ u, u < 9 → τ (b + 7) (9 * t + u) = σ (b + 7) (9 * q + u))) → (∀ j, zcnt (fun j => !(zwi (σ (b + 2)) k 12 j)) i ≤ j → τ (b + 1) j = σ (b + 1) j ∧ τ (b + 2) j = σ (b + 2) j ∧ τ (b + 3) j = (if j < (σ b 0).toNat then zpl σ b k j else σ (b + 3) j) ∧ τ (b + 4) j = σ (b + 4) j ∧ τ (b + 5) j = σ (b + 5) j ∧ τ (b + 6) j = σ (b + 6) j ∧ ∀ u, u < 9 → τ (b + 7) (9 * j + u) = σ (b + 7) (9 * j + u)) → zGood τ b → (∀ a, (a ≤ b ∨ b + 8 ≤ a) → τ a = σ a) → i ≤ (σ b 0).toNat → (σ b 0).toNat < i + m → Go G X m_Sh_drop (3, 0, 0, 0, 0) n SH τ 67 [(0, vr G b), (1, vi k), (2, vi ((zbits (fun j => zwi (σ (b + 2)) k 12 j) (σ b 0).toNat : Nat) : Int)), (3, vi x3), (4, vi x4)] [] (zV n SH (fun σ' => zDrop σ σ' b k)) := by
  intro m
  induction m with
  | zero => intro i x3 x4 τ e4 e3 t1 t2 tg t3 hi hm; exact absurd hm (by omega)
  | succ m ih =>
    intro i x3 x4 τ e4 e3 t1 t2 tg t3 hi hm
    have hb := hS.1
    have hc := hg.1
    subst e4 e3
    have s0 : τ b = σ b := t3 b (by omega)
    have s0c : τ b 0 = σ b 0 := by rw [s0]
    have hz := zcnt_le (fun j => !(zwi (σ (b + 2)) k 12 j)) i
    have hzb := zbits_le (p := (fun j => zwi (σ (b + 2)) k 12 j)) (show (σ b 0).toNat ≤ 12 by omega)
    refine g_iload (i := 4) (by decide +kernel) rfl ?_
    refine g_aload_n (i := 0) (by decide +kernel) rfl ?_
    refine g_geti f_Sh_39 (by decide +kernel) (by omega) hS.a0 rfl ?_
    refine g_icmp_ge (off := 29) (tgt := 102) (by decide +kernel) (by decide) ⟨by omega, by omega⟩ ⟨by omega, by omega⟩ (fun h73 => ?_) (fun h73 => ?_)
    · refine g_aload_n (i := 0) (by decide +kernel) rfl ?_
      refine g_iload_n (i := 3) (by decide +kernel) rfl ?_
      refine g_puti f_Sh_39 (by decide +kernel) (by omega) hS.a0 rfl ?_
      refine g_retV (by decide +kernel) rfl ⟨by decide, by decide⟩ ?_
      have en : i = (σ b 0).toNat := by omega
      subst en
      refine ⟨fun q hq hqw => ?_, fun j hj => ?_, ?_, fun a ha => ?_⟩
      · have := t1 q hq hqw
        simpa only [zs_other (show b + 1 ≠ b by omega), zs_other (show b + 2 ≠ b by omega), zs_other (show b + 3 ≠ b by omega), zs_other (show b + 4 ≠ b by omega), zs_other (show b + 5 ≠ b by omega), zs_other (show b + 6 ≠ b by omega), zs_other (show b + 7 ≠ b by omega)] using this
      · have := t2 j hj
        simpa only [zs_other (show b + 1 ≠ b by omega), zs_other (show b + 2 ≠ b by omega), zs_other (show b + 3 ≠ b by omega), zs_other (show b + 4 ≠ b by omega), zs_other (show b + 5 ≠ b by omega), zs_other (show b + 6 ≠ b by omega), zs_other (show b + 7 ≠ b by omega)] using this
      · rw [zs_row, s0]
      · rw [zs_other (by omega)]; exact t3 a (by omega)
    · have hk2 := hg.2.1 i (by omega)
      have hq2 : zbits (fun j => zwi (σ (b + 2)) k 12 j) (σ b 0).toNat / 2 ^ i < 4096 := Nat.lt_of_le_of_lt (Nat.div_le_self _ _) hzb
      refine g_iload_n (i := 2) (by decide +kernel) rfl ?_
      refine g_iload (i := 4) (by decide +kernel) rfl ?_
      refine g_ishr (by decide +kernel) (by omega) (by omega) ?_
      refine g_iconst (a := 1) (by decide +kernel) ?_
      refine g_iand (by decide +kernel) (y := 1) (by omega) (by omega) ?_
      refine g_if_ne (off := 14) (tgt := 96) (by decide +kernel) (by decide) ⟨by omega, by rw [zbits_bit]; split <;> decide⟩ (fun h82 => ?_) (fun h82 => ?_)
      · have hw : zwi (σ (b + 2)) k 12 i = true := by
          cases hx : zwi (σ (b + 2)) k 12 i with
          | true => rfl
          | false => exact absurd (by rw [zbits_bit, if_neg (by rw [hx]; simp)]; rfl) h82
        refine g_iinc (i := 4) (b := 1) (L' := [(0, _), (1, _), (2, _), (3, _), (4, _)]) (by decide +kernel) rfl rfl rfl ?_
        refine g_goto (off := -32) (tgt := 67) (by decide +kernel) (by decide) ?_
        first
          | exact ih (i + 1) _ _ _ (by omega) (by rw [zcnt_f (by simp [hw])]) (fun q hq hqw => t1 q (by
              rcases Nat.lt_or_ge q i with z | z
              · exact z
              · rw [show q = i by omega, hw] at hqw; cases hqw) hqw) (by rw [zcnt_f (by simp [hw])]; exact t2) tg t3 (by omega) (by omega)
          | exact ih (i + 1) _ _ _ (by omega) (by rw [zcnt_t (by simp [hw])]; push_cast; rfl) (zDrop_step1 t1 t2 hw g2 c1 c2 c3 c4 c5 c6 c7 (by omega)) (zDrop_step2 t2 hw c1 c2 c3 c4 c5 c6 c7) (zCC_good tg (by omega) (by omega) c1 c2 c3 c4 c5 c6 c7 c8 (zren_in (by rw [g2.2.1]; omega)) (zren_in (by rw [g2.2.2.2.2.1]; omega))) (fun a ha => by rw [c8 a ha]; exact t3 a ha) (by omega) (by omega)
      · have hw : zwi (σ (b + 2)) k 12 i = false := by
          cases hx : zwi (σ (b + 2)) k 12 i with
          | false => rfl
          | true => exact absurd h82 (by rw [zbits_bit, if_pos (by rw [hx, decide_eq_true (show i < (σ b 0).toNat by omega)]; rfl)]; decide)
        have g2 := t2 i hz
        have hti := ht i (by omega)
        have hoi := ho i (by omega)
        refine g_aload_n (i := 0) (by decide +kernel) rfl ?_
        refine g_iload (i := 4) (by decide +kernel) rfl ?_
        refine g_iload_n (i := 3) (by decide +kernel) rfl ?_
        refine g_iload_n (i := 2) (by decide +kernel) rfl ?_
        refine g_cVV (st := []) (c_Sh_copyClip (f := i) (t := zcnt (fun j => !(zwi (σ (b + 2)) k 12 j)) i) (N := (σ b 0).toNat) (w := (fun j => zwi (σ (b + 2)) k 12 j)) hn hS tg (by omega) (by omega) (by omega) (by rw [g2.2.1]; omega) (by rw [g2.2.2.2.2.1]; omega)) k_Sh_copyClip l_Sh_83 (by decide +kernel) (by omega) hS.a0 rfl rfl rfl (Nat.le_of_ble_eq_true rfl) (by decide) ⟨by decide, by decide⟩ ?_
        rintro σ1 ⟨c1, c2, c3, c4, c5, c6, c7, c8⟩
        refine g_iinc (i := 3) (b := 1) (L' := [(0, _), (1, _), (2, _), (3, _), (4, _)]) (by decide +kernel) rfl rfl rfl ?_
        refine g_iinc (i := 4) (b := 1) (L' := [(0, _), (1, _), (2, _), (3, _), (4, _)]) (by decide +kernel) rfl rfl rfl ?_
        refine g_goto (off := -32) (tgt := 67) (by decide +kernel) (by decide) ?_
        first
          | exact ih (i + 1) _ _ _ (by omega) (by rw [zcnt_f (by simp [hw])]) (fun q hq hqw => t1 q (by
              rcases Nat.lt_or_ge q i with z | z
              · exact z
              · rw [show q = i by omega, hw] at hqw; cases hqw) hqw) (by rw [zcnt_f (by simp [hw])]; exact t2) tg t3 (by omega) (by omega)
          | exact ih (i + 1) _ _ _ (by omega) (by rw [zcnt_t (by simp [hw])]; push_cast; rfl) (zDrop_step1 t1 t2 hw g2 c1 c2 c3 c4 c5 c6 c7 (by omega)) (zDrop_step2 t2 hw c1 c2 c3 c4 c5 c6 c7) (zCC_good tg (by omega) (by omega) c1 c2 c3 c4 c5 c6 c7 c8 (zren_in (by rw [g2.2.1]; omega)) (zren_in (by rw [g2.2.2.2.2.1]; omega))) (fun a ha => by rw [c8 a ha]; exact t3 a ha) (by omega) (by omega)
theorem w1_Sh_drop {G : zG} {X : zX} {n : Nat} {σ : zSt} {b : Nat} {k : Nat} (hn : 189 ≤ n) (hS : zSw SH b) (hg : zGood σ b) (ht : zTree σ b) (hk : k < (σ b 0).toNat) (ho : ∀ j, j < (σ b 0).toNat → σ (b + 5) j < σ b 0) : ∀ (m : Nat) (i : Nat) (x3 : Int) (τ : zSt), x3 = (i : Int) → (∀ a, a ≠ b + 3 → τ a = σ a) → (∀ j, j < i → τ (b + 3) j = zpl σ b k j) → (∀ j, i ≤ j → τ (b + 3) j = σ (b + 3) j) → i ≤ (σ b 0).toNat → (σ b 0).toNat < i + m → Go G X m_Sh_drop (3, 0, 0, 0, 0) n SH τ 8 [(0, vr G b), (1, vi k), (2, vi ((zbits (fun j => zwi (σ (b + 2)) k 12 j) (σ b 0).toNat : Nat) : Int)), (3, vi x3)] [] (zV n SH (fun σ' => zDrop σ σ' b k)) := by
  intro m
  induction m with
  | zero => intro i x3 τ e3 t0 t1 t2 hi hm; exact absurd hm (by omega)
  | succ m ih =>
    intro i x3 τ e3 t0 t1 t2 hi hm
    have hb := hS.1
    have hc := hg.1
    subst e3
    have s0 : τ b 0 = σ b 0 := by rw [t0 _ (by omega)]
    have s1 : ∀ j, τ (b + 2) j = σ (b + 2) j := fun j => by rw [t0 _ (by omega)]
    have s2 := s1 i
    have s3 := s1 k
    have s4 := t2 i (Nat.le_refl i)
    have hkk := hg.2.1 k (by omega)
    have s5 : τ (b + 3) k = σ (b + 3) k := by
      rcases Nat.lt_or_ge k i with z | z
      · rw [t1 k z]; unfold zpl; rw [if_neg (by omega)]
      · exact t2 k z
    refine g_iload_n (i := 3) (by decide +kernel) rfl ?_
    refine g_aload_n (i := 0) (by decide +kernel) rfl ?_
    refine g_geti f_Sh_39 (by decide +kernel) (by omega) hS.a0 rfl ?_
    refine g_icmp_ge (off := 49) (tgt := 62) (by decide +kernel) (by decide) ⟨by omega, by omega⟩ ⟨by omega, by omega⟩ (fun h13 => ?_) (fun h13 => ?_)
    · refine g_iconst (a := 0) (by decide +kernel) ?_
      refine g_istore_n (i := 3) (L' := [(0, _), (1, _), (2, _), (3, _)]) (by decide +kernel) rfl rfl ?_
      refine g_iconst (a := 0) (by decide +kernel) ?_
      refine g_istore (i := 4) (L' := [(0, _), (1, _), (2, _), (3, _), (4, _)]) (by decide +kernel) rfl rfl ?_
      refine w2_Sh_drop hn hS hg ht hk ho 13 0 _ _ τ rfl rfl (fun q hq => by omega) (fun j _ => ?_) ?_ (fun a ha => t0 a (by omega)) (by omega) (by omega)
      · rw [t0 (b + 1) (by omega), t0 (b + 2) (by omega), t0 (b + 4) (by omega), t0 (b + 5) (by omega), t0 (b + 6) (by omega), t0 (b + 7) (by omega)]
        refine ⟨rfl, rfl, ?_, rfl, rfl, rfl, fun _ _ => rfl⟩
        split
        · exact t1 j (by omega)
        · exact t2 j (by omega)
      · obtain ⟨g1, g2, g3, g4⟩ := hg
        refine ⟨by rw [t0 b (by omega)]; exact g1, fun q hq => ?_, by rw [t0 (b + 7) (by omega)]; exact g3, by rw [t0 (b + 8) (by omega), t0 (b + 9) (by omega)]; exact g4⟩
        have z := g2 q hq
        rw [t0 (b + 1) (by omega), t0 (b + 2) (by omega), t0 (b + 4) (by omega), t0 (b + 5) (by omega), t0 (b + 6) (by omega)]
        refine ⟨z.1, z.2.1, ?_, z.2.2.2⟩
        rcases Nat.lt_or_ge q i with y | y
        · rw [t1 q y]; unfold zpl; split <;> omega
        · rw [t2 q y]; exact z.2.2.1
    · have hk2 := hg.2.1 i (by omega)
      refine g_aload_n (i := 0) (by decide +kernel) rfl ?_
      refine g_getr f_Sh_15 (by decide +kernel) (by omega) hS.a0 rfl ?_
      refine g_iload_n (i := 3) (by decide +kernel) rfl ?_
      refine g_iald (j := i) (by decide +kernel) (by omega) hS.a2 rfl (by omega) (by decide) ?_
      refine g_aload_n (i := 0) (by decide +kernel) rfl ?_
      refine g_getr f_Sh_15 (by decide +kernel) (by omega) hS.a0 rfl ?_
      refine g_iload_n (i := 1) (by decide +kernel) rfl ?_
      refine g_iald (j := k) (by decide +kernel) (by omega) hS.a2 rfl (by omega) (by decide) ?_
      refine g_icmp_ne (off := 28) (tgt := 56) (by decide +kernel) (by decide) ⟨by omega, by omega⟩ ⟨by omega, by omega⟩ (fun h28 => ?_) (fun h28 => ?_)
      · refine g_iinc (i := 3) (b := 1) (L' := [(0, _), (1, _), (2, _), (3, _)]) (by decide +kernel) rfl rfl rfl ?_
        refine g_goto (off := -51) (tgt := 8) (by decide +kernel) (by decide) ?_
        refine ih (i + 1) _ _ (by omega) (fun a ha => by first | exact t0 a ha | (rw [zs_other ha]; exact t0 a ha)) (fun j hj => ?_) (fun j hj => ?_) (by omega) (by omega)
        · rcases Nat.lt_or_ge j i with q | q
          · have := t1 j q
            simpa [zs_app, zu_app, show ¬ j = i by omega] using this
          · have e : j = i := by omega
            subst e
            try simp only [zs_app, zu_app, if_true]
            unfold zpl
            split <;> omega
        · have := t2 j (by omega)
          simpa [zs_app, zu_app, show ¬ j = i by omega] using this
      · refine g_aload_n (i := 0) (by decide +kernel) rfl ?_
        refine g_getr f_Sh_18 (by decide +kernel) (by omega) hS.a0 rfl ?_
        refine g_iload_n (i := 3) (by decide +kernel) rfl ?_
        refine g_iald (j := i) (by decide +kernel) (by omega) hS.a3 rfl (by omega) (by decide) ?_
        refine g_aload_n (i := 0) (by decide +kernel) rfl ?_
        refine g_getr f_Sh_18 (by decide +kernel) (by omega) hS.a0 rfl ?_
        refine g_iload_n (i := 1) (by decide +kernel) rfl ?_
        refine g_iald (j := k) (by decide +kernel) (by omega) hS.a3 rfl (by omega) (by decide) ?_
        refine g_icmp_le (off := 13) (tgt := 56) (by decide +kernel) (by decide) ⟨by omega, by omega⟩ ⟨by omega, by omega⟩ (fun h43 => ?_) (fun h43 => ?_)
        · refine g_iinc (i := 3) (b := 1) (L' := [(0, _), (1, _), (2, _), (3, _)]) (by decide +kernel) rfl rfl rfl ?_
          refine g_goto (off := -51) (tgt := 8) (by decide +kernel) (by decide) ?_
          refine ih (i + 1) _ _ (by omega) (fun a ha => by first | exact t0 a ha | (rw [zs_other ha]; exact t0 a ha)) (fun j hj => ?_) (fun j hj => ?_) (by omega) (by omega)
          · rcases Nat.lt_or_ge j i with q | q
            · have := t1 j q
              simpa [zs_app, zu_app, show ¬ j = i by omega] using this
            · have e : j = i := by omega
              subst e
              try simp only [zs_app, zu_app, if_true]
              unfold zpl
              split <;> omega
          · have := t2 j (by omega)
            simpa [zs_app, zu_app, show ¬ j = i by omega] using this
        · refine g_aload_n (i := 0) (by decide +kernel) rfl ?_
          refine g_getr f_Sh_18 (by decide +kernel) (by omega) hS.a0 rfl ?_
          refine g_iload_n (i := 3) (by decide +kernel) rfl ?_
          refine g_dup2 (by decide +kernel) rfl rfl ?_
          refine g_iald (j := i) (by decide +kernel) (by omega) hS.a3 rfl (by omega) (by decide) ?_
          refine g_iconst (a := 1) (by decide +kernel) ?_
          refine g_isub (by decide +kernel) ?_
          refine g_iast (j := i) (by decide +kernel) (by omega) hS.a3 rfl (by omega) (by decide) ?_
          refine g_iinc (i := 3) (b := 1) (L' := [(0, _), (1, _), (2, _), (3, _)]) (by decide +kernel) rfl rfl rfl ?_
          refine g_goto (off := -51) (tgt := 8) (by decide +kernel) (by decide) ?_
          refine ih (i + 1) _ _ (by omega) (fun a ha => by first | exact t0 a ha | (rw [zs_other ha]; exact t0 a ha)) (fun j hj => ?_) (fun j hj => ?_) (by omega) (by omega)
          · rcases Nat.lt_or_ge j i with q | q
            · have := t1 j q
              simpa [zs_app, zu_app, show ¬ j = i by omega] using this
            · have e : j = i := by omega
              subst e
              try simp only [zs_app, zu_app, if_true]
              unfold zpl
              split <;> omega
          · have := t2 j (by omega)
            simpa [zs_app, zu_app, show ¬ j = i by omega] using this
theorem c_Sh_drop {G : zG} {n : Nat} {σ : zSt} {b : Nat} {k : Nat} (hn : 189 ≤ n) (hS : zSw SH b) (hg : zGood σ b) (ht : zTree σ b) (hk : k < (σ b 0).toNat) (ho : ∀ j, j < (σ b 0).toNat → σ (b + 5) j < σ b 0) : Gm G y_Sh_drop m_Sh_drop 3 0 0 [vr G b, vi k] n SH σ (zV n SH (fun σ' => zDrop σ σ' b k)) := by
  refine g_enter (L := [(0, _), (1, _)]) (by decide) rfl rfl rfl (Nat.le_of_ble_eq_true rfl) (fun X => ?_)
  have hb := hS.1
  have hc := hg.1
  refine g_aload_n (i := 0) (by decide +kernel) rfl ?_
  refine g_iload_n (i := 1) (by decide +kernel) rfl ?_
  refine g_cVI (st := []) (c_Sh_bitsWithin hn hS hg ht hk) k_Sh_bitsWithin l_Sh_80 (by decide +kernel) (by omega) hS.a0 rfl rfl rfl (Nat.le_of_ble_eq_true rfl) (by decide) ⟨by decide, by decide⟩ ?_
  rintro a σ1 ⟨rfl, hσ⟩
  obtain rfl := hσ.symm
  refine g_istore_n (i := 2) (L' := [(0, _), (1, _), (2, _)]) (by decide +kernel) rfl rfl ?_
  refine g_iconst (a := 0) (by decide +kernel) ?_
  refine g_istore_n (i := 3) (L' := [(0, _), (1, _), (2, _), (3, _)]) (by decide +kernel) rfl rfl ?_
  exact w1_Sh_drop hn hS hg ht hk ho 13 0 _ σ rfl (fun _ _ => rfl) (fun j hj => by omega) (fun j _ => rfl) (by omega) (by omega)
