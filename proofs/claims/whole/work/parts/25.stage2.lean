theorem c_Sg_clips {G : zG} {n : Nat} {σ : zSt} (hn : 189 ≤ n) : Gm G y_Sg_clips m_Sg_clips 0 0 0 [vr G 33] n SH σ (zI n SH (fun a σ' => a = σ 1 0 ∧ σ' = σ)) := by
  refine g_enter (L := [(0, _)]) (by decide) rfl rfl rfl (Nat.le_of_ble_eq_true rfl) (fun X => ?_)
  refine g_aload_n (i := 0) (by decide +kernel) rfl ?_
  refine g_getr f_Sg_29 (by decide +kernel) (by omega) rfl rfl ?_
  refine g_geti f_Sg_80 (by decide +kernel) (by omega) rfl rfl ?_
  refine g_retI (by decide +kernel) rfl (Or.inl rfl) ⟨by decide, by decide⟩ ?_
  exact ⟨rfl, rfl⟩
/-- the light that is left behind the first i that stand -/
def zlt (sg sd : Nat → Int) : Nat → Int
  | 0 => 100
  | i + 1 => zlt sg sd i - zlt sg sd i * sg (sd i).toNat / 100
theorem zlt_s (sg sd : Nat → Int) (i : Nat) : zlt sg sd (i + 1) = zlt sg sd i - zlt sg sd i * sg (sd i).toNat / 100 := rfl
theorem zlt_in {sg sd : Nat → Int} (h : ∀ k, k < 12 → 0 ≤ sg k ∧ sg k ≤ 100) : ∀ i, (∀ j, j < i → 0 ≤ sd j ∧ sd j < 12) → 0 ≤ zlt sg sd i ∧ zlt sg sd i ≤ 100
  | 0, _ => ⟨show (0 : Int) ≤ 100 by decide, show (100 : Int) ≤ 100 by decide⟩
  | i + 1, hs => by
    have a := zlt_in h i (fun j hj => hs j (by omega))
    have b := h (sd i).toNat (by have := hs i (by omega); omega)
    have c0 : 0 ≤ zlt sg sd i * sg (sd i).toNat := Int.mul_nonneg a.1 b.1
    have c1 : zlt sg sd i * sg (sd i).toNat ≤ zlt sg sd i * 100 := Int.mul_le_mul_of_nonneg_left b.2 a.1
    rw [zlt_s]
    have d0 : 0 ≤ zlt sg sd i * sg (sd i).toNat / 100 := Int.ediv_nonneg c0 (by decide)
    have d1 : zlt sg sd i * sg (sd i).toNat / 100 ≤ zlt sg sd i := by omega
    omega
/-- the shares of those that stand, up to i -/
def zShr (σ τ : zSt) (p i : Nat) : Prop := (∀ a, a ≠ p + 7 → τ a = σ a) ∧ (∀ j, j < i → τ (p + 7) (σ 44 j).toNat = zlt (σ (p + 6)) (σ 44) j * σ (p + 6) (σ 44 j).toNat / 100) ∧ ∀ k, (∀ j, j < i → (σ 44 j).toNat ≠ k) → τ (p + 7) k = σ (p + 7) k
def zShare (σ σ' : zSt) (p : Nat) : Prop := ∃ τ, zShr σ τ p (σ 33 6).toNat ∧ σ' = zs τ p 1 (zlt (σ (p + 6)) (σ 44) (σ 33 6).toNat)
theorem w_Sg_shareLight {G : zG} {X : zX} {n : Nat} {σ : zSt} {p : Nat} (hn : 189 ≤ n) (hP : zMo SH p) (hp2 : 34 ≤ p) (hp3 : p ≠ 44 ∧ p + 7 ≠ 44) (h6 : ∀ k, k < 12 → 0 ≤ σ (p + 6) k ∧ σ (p + 6) k ≤ 100) (hst : 0 ≤ σ 33 6 ∧ σ 33 6 ≤ 12) (hsd : ∀ j, j < (σ 33 6).toNat → 0 ≤ σ 44 j ∧ σ 44 j < 12) (hin : ∀ i j, i < (σ 33 6).toNat → j < (σ 33 6).toNat → σ 44 i = σ 44 j → i = j) : ∀ (m : Nat) (i : Nat) (x2 x3 : Int) (τ : zSt) (L4 : List (Nat × Value)), x3 = (i : Int) → x2 = zlt (σ (p + 6)) (σ 44) i → zShr σ τ p i → (L4 = [] ∨ ∃ v, L4 = [(4, vi v)]) → i ≤ (σ 33 6).toNat → (σ 33 6).toNat < i + m → Go G X m_Sg_shareLight (0, 0, 0, 0, 0) n SH τ 5 ([(0, vr G 33), (1, vr G p), (2, vi x2), (3, vi x3)] ++ L4) [] (zV n SH (fun σ' => zShare σ σ' p)) := by
  intro m
  induction m with
  | zero => intro i x2 x3 τ L4 e3 e2 ht h4 hi hm; exact absurd hm (by omega)
  | succ m ih =>
    intro i x2 x3 τ L4 e3 e2 ht h4 hi hm
    have hp := hP.1
    obtain ⟨t1, t2, t3⟩ := id ht
    have q1 : τ 33 = σ 33 := t1 _ (by omega)
    have q2 : τ 44 = σ 44 := t1 _ (by omega)
    have q3 : τ (p + 6) = σ (p + 6) := t1 _ (by omega)
    have s1 : τ 33 6 = σ 33 6 := by rw [q1]
    have lz := zlt_in h6 i (fun j hj => hsd j (by omega))
    subst e3 e2
    refine g_less [0, 1, 2, 3] (L' := [(0, vr G 33), (1, vr G p), (2, vi (zlt (σ (p + 6)) (σ 44) i)), (3, vi (i : Int))]) (by rcases h4 with rfl | ⟨v, rfl⟩ <;> rfl) ?_
    refine g_iload_n (i := 3) (by decide +kernel) rfl ?_
    refine g_aload_n (i := 0) (by decide +kernel) rfl ?_
    refine g_geti f_Sg_87 (by decide +kernel) (by omega) rfl rfl ?_
    refine g_icmp_ge (off := 45) (tgt := 55) (by decide +kernel) (by decide) ⟨by omega, by omega⟩ ⟨by omega, by omega⟩ (fun h10 => ?_) (fun h10 => ?_)
    · refine g_aload_n (i := 1) (by decide +kernel) rfl ?_
      refine g_iload_n (i := 2) (by decide +kernel) rfl ?_
      refine g_puti f_Sg_165 (by decide +kernel) (by omega) hP.a0 rfl ?_
      refine g_retV (by decide +kernel) rfl ⟨by decide, by decide⟩ ?_
      have e : i = (σ 33 6).toNat := by omega
      subst e
      exact ⟨τ, ht, rfl⟩
    · have sd := hsd i (by omega)
      have sg := h6 (σ 44 i).toNat (by omega)
      have s2 : τ 44 i = σ 44 i := by rw [q2]
      have s3 : τ (p + 6) (σ 44 i).toNat = σ (p + 6) (σ 44 i).toNat := by rw [q3]
      have c0 : 0 ≤ zlt (σ (p + 6)) (σ 44) i * σ (p + 6) (σ 44 i).toNat := Int.mul_nonneg lz.1 sg.1
      have c1 : zlt (σ (p + 6)) (σ 44) i * σ (p + 6) (σ 44 i).toNat ≤ 100 * 100 := Int.mul_le_mul lz.2 sg.2 sg.1 (by omega)
      refine g_iload_n (i := 2) (by decide +kernel) rfl ?_
      refine g_aload_n (i := 1) (by decide +kernel) rfl ?_
      refine g_getr f_Sg_109 (by decide +kernel) (by omega) hP.a0 rfl ?_
      refine g_aload_n (i := 0) (by decide +kernel) rfl ?_
      refine g_getr f_Sg_26 (by decide +kernel) (by omega) rfl rfl ?_
      refine g_iload_n (i := 3) (by decide +kernel) rfl ?_
      refine g_iald (j := i) (by decide +kernel) (by omega) rfl rfl (by omega) (by decide) ?_
      refine g_iald (j := (σ 44 i).toNat) (by decide +kernel) (by omega) hP.a6 (by omega) (by omega) (by decide) ?_
      refine g_imul (by decide +kernel) ?_
      refine g_bipush (a := 100) (by decide +kernel) (by decide) ?_
      refine g_idiv (by decide +kernel) ⟨by rw [s3]; exact c0, by rw [s3]; omega, by omega, by omega⟩ ?_
      refine g_istore (i := 4) (L' := [(0, _), (1, _), (2, _), (3, _), (4, _)]) (by decide +kernel) rfl rfl ?_
      refine g_aload_n (i := 1) (by decide +kernel) rfl ?_
      refine g_getr f_Sg_90 (by decide +kernel) (by omega) hP.a0 rfl ?_
      refine g_aload_n (i := 0) (by decide +kernel) rfl ?_
      refine g_getr f_Sg_26 (by decide +kernel) (by omega) rfl rfl ?_
      refine g_iload_n (i := 3) (by decide +kernel) rfl ?_
      refine g_iald (j := i) (by decide +kernel) (by omega) rfl rfl (by omega) (by decide) ?_
      refine g_iload (i := 4) (by decide +kernel) rfl ?_
      refine g_iast (j := (σ 44 i).toNat) (by decide +kernel) (by omega) hP.a7 (by omega) (by omega) (by decide) ?_
      refine g_iload_n (i := 2) (by decide +kernel) rfl ?_
      refine g_iload (i := 4) (by decide +kernel) rfl ?_
      refine g_isub (by decide +kernel) ?_
      refine g_istore_n (i := 2) (L' := [(0, _), (1, _), (2, _), (3, _), (4, _)]) (by decide +kernel) rfl rfl ?_
      refine g_iinc (i := 3) (b := 1) (L' := [(0, _), (1, _), (2, _), (3, _), (4, _)]) (by decide +kernel) rfl rfl rfl ?_
      refine g_goto (off := -47) (tgt := 5) (by decide +kernel) (by decide) ?_
      rw [s3]
      refine ih (i + 1) _ _ _ [(4, vi (zlt (σ (p + 6)) (σ 44) i * σ (p + 6) (σ 44 i).toNat / 100))] (by omega) rfl ⟨fun a ha => by rw [zs_other ha]; exact t1 a ha, fun j hj => ?_, fun k hk => ?_⟩ (Or.inr ⟨_, rfl⟩) (by omega) (by omega)
      · rcases Nat.lt_or_ge j i with z | z
        · have hne : (σ 44 j).toNat ≠ (σ 44 i).toNat := fun e => by
            have a := hsd j (by omega)
            have := hin j i (by omega) (by omega) (by omega)
            omega
          rw [zs_row, zu_ne hne]
          exact t2 j z
        · have e : j = i := by omega
          subst e
          rw [zs_row, zu_eq]
      · rw [zs_row, zu_ne (fun e => hk i (by omega) e.symm)]
        exact t3 k (fun j hj => hk j (by omega))
theorem c_Sg_shareLight {G : zG} {n : Nat} {σ : zSt} {p : Nat} (hn : 189 ≤ n) (hP : zMo SH p) (hp2 : 34 ≤ p) (hp3 : p ≠ 44 ∧ p + 7 ≠ 44) (h6 : ∀ k, k < 12 → 0 ≤ σ (p + 6) k ∧ σ (p + 6) k ≤ 100) (hst : 0 ≤ σ 33 6 ∧ σ 33 6 ≤ 12) (hsd : ∀ j, j < (σ 33 6).toNat → 0 ≤ σ 44 j ∧ σ 44 j < 12) (hin : ∀ i j, i < (σ 33 6).toNat → j < (σ 33 6).toNat → σ 44 i = σ 44 j → i = j) : Gm G y_Sg_shareLight m_Sg_shareLight 0 0 0 [vr G 33, vr G p] n SH σ (zV n SH (fun σ' => zShare σ σ' p)) := by
  refine g_enter (L := [(0, _), (1, _)]) (by decide) rfl rfl rfl (Nat.le_of_ble_eq_true rfl) (fun X => ?_)
  have hp := hP.1
  refine g_bipush (a := 100) (by decide +kernel) (by decide) ?_
  refine g_istore_n (i := 2) (L' := [(0, _), (1, _), (2, _)]) (by decide +kernel) rfl rfl ?_
  refine g_iconst (a := 0) (by decide +kernel) ?_
  refine g_istore_n (i := 3) (L' := [(0, _), (1, _), (2, _), (3, _)]) (by decide +kernel) rfl rfl ?_
  exact w_Sg_shareLight hn hP hp2 hp3 h6 hst hsd hin 13 0 _ _ σ [] rfl rfl ⟨fun _ _ => rfl, fun j hj => by omega, fun _ _ => rfl⟩ (Or.inl rfl) (by omega) (by omega)
/-- where the next one comes in, from place p downwards -/
def zpos (tm a : Nat → Int) (t : Int) : Nat → Nat
  | 0 => 0
  | p + 1 => if t < tm (a p).toNat then zpos tm a t p else p + 1
theorem zpos_s (tm a : Nat → Int) (t : Int) (p : Nat) : zpos tm a t (p + 1) = if t < tm (a p).toNat then zpos tm a t p else p + 1 := rfl
theorem zpos_le (tm a : Nat → Int) (t : Int) : ∀ p, zpos tm a t p ≤ p
  | 0 => Nat.le_refl 0
  | p + 1 => by
    have := zpos_le tm a t p
    rw [zpos_s]; split <;> omega
/-- the order by times: the first i laid in -/
def zord (tm : Nat → Int) : Nat → Nat → Int
  | 0, _ => 0
  | i + 1, j => if j < zpos tm (zord tm i) (tm i) i then zord tm i j else if j = zpos tm (zord tm i) (tm i) i then (i : Int) else zord tm i (j - 1)
theorem zord_s (tm : Nat → Int) (i j : Nat) : zord tm (i + 1) j = if j < zpos tm (zord tm i) (tm i) i then zord tm i j else if j = zpos tm (zord tm i) (tm i) i then (i : Int) else zord tm i (j - 1) := rfl
theorem zord_in (tm : Nat → Int) : ∀ i j, j < i → 0 ≤ zord tm i j ∧ zord tm i j < i
  | 0, j, h => by omega
  | i + 1, j, h => by
    have hp := zpos_le tm (zord tm i) (tm i) i
    rw [zord_s]
    split
    · have := zord_in tm i j (by omega); omega
    · split
      · omega
      · have := zord_in tm i (j - 1) (by omega); omega
theorem w2_Sg_sortPresses {G : zG} {X : zX} {n : Nat} {σ : zSt} {post : zPost} {i : Nat} (hn : 189 ≤ n) (hg : zGood σ 1) (hi : (i : Int) < σ 1 8) (kk : ∀ τ', (∀ a, a ≠ 43 → τ' a = σ a) → (∀ j, j < i + 1 → τ' 43 j = zord (σ 10) (i + 1) j) → Go G X m_Sg_sortPresses (0, 0, 0, 0, 0) n SH τ' 2 [(0, vr G 33), (1, vi ((i : Int) + 1))] [] post) : ∀ (m : Nat) (t : Nat) (x2 : Int) (τ : zSt), x2 = (t : Int) → (∀ a, a ≠ 43 → τ a = σ a) → (∀ j, j < t → τ 43 j = zord (σ 10) i j) → (∀ j, t < j → j ≤ i → τ 43 j = zord (σ 10) i (j - 1)) → zpos (σ 10) (zord (σ 10) i) (σ 10 i) i = zpos (σ 10) (zord (σ 10) i) (σ 10 i) t → t ≤ i → t < m → Go G X m_Sg_sortPresses (0, 0, 0, 0, 0) n SH τ 15 [(0, vr G 33), (1, vi (i : Int)), (2, vi x2)] [] (post) := by
  intro m
  induction m with
  | zero => intro t x2 τ e2 t1 t2 t3 e4 hti hm; exact absurd hm (by omega)
  | succ m ih =>
    intro t x2 τ e2 t1 t2 t3 e4 hti hm
    have hc : 0 ≤ σ 1 8 ∧ σ 1 8 ≤ 6 := hg.1.2.2
    subst e2
    have s1 : ∀ j, τ 10 j = σ 10 j := fun j => by rw [t1 10 (by decide)]
    have r1 : 0 ≤ σ 10 i ∧ σ 10 i ≤ 1999 := (hg.2.2.2 i (by omega)).2
    have s1i := s1 i
    refine g_iload_n (i := 2) (by decide +kernel) rfl ?_
    refine g_if_le (off := 51) (tgt := 67) (by decide +kernel) (by decide) ⟨by omega, by omega⟩ (fun h16 => ?_) (fun h16 => ?_)
    · have t0 : t = 0 := by omega
      subst t0
      have e4 : zpos (σ 10) (zord (σ 10) i) (σ 10 i) i = 0 := e4
      refine g_aload_n (i := 0) (by decide +kernel) rfl ?_
      refine g_getr f_Sg_22 (by decide +kernel) (by omega) rfl rfl ?_
      refine g_iload_n (i := 2) (by decide +kernel) rfl ?_
      refine g_iload_n (i := 1) (by decide +kernel) rfl ?_
      first
        | (refine g_iast (j := 0) (by decide +kernel) (by omega) rfl rfl (by omega) (by decide) ?_
           refine g_iinc (i := 1) (b := 1) (L' := [(0, _), (1, _), (2, _)]) (by decide +kernel) rfl rfl rfl ?_
           refine g_goto (off := -75) (tgt := 2) (by decide +kernel) (by decide) ?_
           refine g_less [0, 1] rfl (kk _ (fun a ha => by rw [zs_other ha]; exact t1 a ha) (fun j hj => ?_))
           rw [zs_row, zord_s, e4]
           by_cases e : j = 0
           · subst e; rw [zu_eq, if_neg (by omega), if_pos rfl]
           · rw [zu_ne e, if_neg (by omega), if_neg e]; exact t3 j (by omega) (by omega))
        | (refine g_iast (j := t + 1) (by decide +kernel) (by omega) rfl rfl (by omega) (by decide) ?_
           refine g_iinc (i := 1) (b := 1) (L' := [(0, _), (1, _), (2, _)]) (by decide +kernel) rfl rfl rfl ?_
           refine g_goto (off := -75) (tgt := 2) (by decide +kernel) (by decide) ?_
           refine g_less [0, 1] rfl (kk _ (fun a ha => by rw [zs_other ha]; exact t1 a ha) (fun j hj => ?_))
           rw [zs_row, zord_s, e4]
           by_cases e : j = t + 1
           · subst e; rw [zu_eq, if_neg (by omega), if_pos rfl]
           · rw [zu_ne e]
             by_cases e2 : j < t + 1
             · rw [if_pos e2]; exact t2 j e2
             · rw [if_neg e2, if_neg e]; exact t3 j (by omega) (by omega))
    · obtain ⟨t, rfl⟩ : ∃ u, t = u + 1 := ⟨t - 1, by omega⟩
      have s2 := t2 t (by omega)
      have r2 := zord_in (σ 10) i t (by omega)
      have r3 : 0 ≤ σ 10 (zord (σ 10) i t).toNat ∧ σ 10 (zord (σ 10) i t).toNat ≤ 1999 := (hg.2.2.2 _ (by omega)).2
      have s3 := s1 (zord (σ 10) i t).toNat
      rw [zpos_s] at e4
      refine g_aload_n (i := 0) (by decide +kernel) rfl ?_
      refine g_getr f_Sg_29 (by decide +kernel) (by omega) rfl rfl ?_
      refine g_getr f_Sg_64 (by decide +kernel) (by omega) rfl rfl ?_
      refine g_aload_n (i := 0) (by decide +kernel) rfl ?_
      refine g_getr f_Sg_22 (by decide +kernel) (by omega) rfl rfl ?_
      refine g_iload_n (i := 2) (by decide +kernel) rfl ?_
      refine g_iconst (a := 1) (by decide +kernel) ?_
      refine g_isub (by decide +kernel) ?_
      refine g_iald (j := t) (by decide +kernel) (by omega) rfl (by push_cast; omega) (by omega) (by decide) ?_
      refine g_iald (j := (zord (σ 10) i t).toNat) (by decide +kernel) (by omega) rfl (by omega) (by omega) (by decide) ?_
      refine g_aload_n (i := 0) (by decide +kernel) rfl ?_
      refine g_getr f_Sg_29 (by decide +kernel) (by omega) rfl rfl ?_
      refine g_getr f_Sg_64 (by decide +kernel) (by omega) rfl rfl ?_
      refine g_iload_n (i := 1) (by decide +kernel) rfl ?_
      refine g_iald (j := i) (by decide +kernel) (by omega) rfl rfl (by omega) (by decide) ?_
      refine g_icmp_le (off := 23) (tgt := 67) (by decide +kernel) (by decide) ⟨by omega, by omega⟩ ⟨by omega, by omega⟩ (fun h44 => ?_) (fun h44 => ?_)
      · rw [if_neg (by omega)] at e4
        refine g_aload_n (i := 0) (by decide +kernel) rfl ?_
        refine g_getr f_Sg_22 (by decide +kernel) (by omega) rfl rfl ?_
        refine g_iload_n (i := 2) (by decide +kernel) rfl ?_
        refine g_iload_n (i := 1) (by decide +kernel) rfl ?_
        first
          | (refine g_iast (j := 0) (by decide +kernel) (by omega) rfl rfl (by omega) (by decide) ?_
             refine g_iinc (i := 1) (b := 1) (L' := [(0, _), (1, _), (2, _)]) (by decide +kernel) rfl rfl rfl ?_
             refine g_goto (off := -75) (tgt := 2) (by decide +kernel) (by decide) ?_
             refine g_less [0, 1] rfl (kk _ (fun a ha => by rw [zs_other ha]; exact t1 a ha) (fun j hj => ?_))
             rw [zs_row, zord_s, e4]
             by_cases e : j = 0
             · subst e; rw [zu_eq, if_neg (by omega), if_pos rfl]
             · rw [zu_ne e, if_neg (by omega), if_neg e]; exact t3 j (by omega) (by omega))
          | (refine g_iast (j := t + 1) (by decide +kernel) (by omega) rfl rfl (by omega) (by decide) ?_
             refine g_iinc (i := 1) (b := 1) (L' := [(0, _), (1, _), (2, _)]) (by decide +kernel) rfl rfl rfl ?_
             refine g_goto (off := -75) (tgt := 2) (by decide +kernel) (by decide) ?_
             refine g_less [0, 1] rfl (kk _ (fun a ha => by rw [zs_other ha]; exact t1 a ha) (fun j hj => ?_))
             rw [zs_row, zord_s, e4]
             by_cases e : j = t + 1
             · subst e; rw [zu_eq, if_neg (by omega), if_pos rfl]
             · rw [zu_ne e]
               by_cases e2 : j < t + 1
               · rw [if_pos e2]; exact t2 j e2
               · rw [if_neg e2, if_neg e]; exact t3 j (by omega) (by omega))
      · rw [if_pos (by omega)] at e4
        refine g_aload_n (i := 0) (by decide +kernel) rfl ?_
        refine g_getr f_Sg_22 (by decide +kernel) (by omega) rfl rfl ?_
        refine g_iload_n (i := 2) (by decide +kernel) rfl ?_
        refine g_aload_n (i := 0) (by decide +kernel) rfl ?_
        refine g_getr f_Sg_22 (by decide +kernel) (by omega) rfl rfl ?_
        refine g_iload_n (i := 2) (by decide +kernel) rfl ?_
        refine g_iconst (a := 1) (by decide +kernel) ?_
        refine g_isub (by decide +kernel) ?_
        refine g_iald (j := t) (by decide +kernel) (by omega) rfl (by push_cast; omega) (by omega) (by decide) ?_
        refine g_iast (j := t + 1) (by decide +kernel) (by omega) rfl rfl (by omega) (by decide) ?_
        refine g_iinc (i := 2) (b := -1) (L' := [(0, _), (1, _), (2, _)]) (by decide +kernel) rfl rfl rfl ?_
        refine g_goto (off := -49) (tgt := 15) (by decide +kernel) (by decide) ?_
        exact ih t _ _ (by push_cast; omega) (fun a ha => by rw [zs_other ha]; exact t1 a ha) (fun j hj => by rw [zs_row, zu_ne (by omega)]; exact t2 j (by omega)) (fun j h1 h2 => by
          by_cases e : j = t + 1
          · subst e; rw [zs_row, zu_eq]; simpa using s2
          · rw [zs_row, zu_ne e]; exact t3 j (by omega) h2) e4 (by omega) (by omega)
theorem w_Sg_sortPresses {G : zG} {X : zX} {n : Nat} {σ : zSt} (hn : 189 ≤ n) (hg : zGood σ 1) : ∀ (m : Nat) (i : Nat) (x1 : Int) (τ : zSt), x1 = (i : Int) → (∀ a, a ≠ 43 → τ a = σ a) → (∀ j, j < i → τ 43 j = zord (σ 10) i j) → i ≤ (σ 1 8).toNat → (σ 1 8).toNat < i + m → Go G X m_Sg_sortPresses (0, 0, 0, 0, 0) n SH τ 2 [(0, vr G 33), (1, vi x1)] [] (zV n SH (fun σ' => (∀ a, a ≠ 43 → σ' a = σ a) ∧ ∀ j : Nat, (j : Int) < σ 1 8 → σ' 43 j = zord (σ 10) (σ 1 8).toNat j)) := by
  intro m
  induction m with
  | zero => intro i x1 τ e1 t1 t2 hi hm; exact absurd hm (by omega)
  | succ m ih =>
    intro i x1 τ e1 t1 t2 hi hm
    have hc : 0 ≤ σ 1 8 ∧ σ 1 8 ≤ 6 := hg.1.2.2
    subst e1
    have s0 : τ 1 8 = σ 1 8 := by rw [t1 1 (by decide)]
    refine g_iload_n (i := 1) (by decide +kernel) rfl ?_
    refine g_aload_n (i := 0) (by decide +kernel) rfl ?_
    refine g_getr f_Sg_29 (by decide +kernel) (by omega) rfl rfl ?_
    refine g_geti f_Sg_59 (by decide +kernel) (by omega) rfl rfl ?_
    refine g_icmp_ge (off := 70) (tgt := 80) (by decide +kernel) (by decide) ⟨by omega, by omega⟩ ⟨by omega, by omega⟩ (fun h10 => ?_) (fun h10 => ?_)
    · refine g_retV (by decide +kernel) rfl ⟨by decide, by decide⟩ ?_
      have e : i = (σ 1 8).toNat := by omega
      subst e
      exact ⟨t1, fun j hj => t2 j (by omega)⟩
    · refine g_iload_n (i := 1) (by decide +kernel) rfl ?_
      refine g_istore_n (i := 2) (L' := [(0, _), (1, _), (2, _)]) (by decide +kernel) rfl rfl ?_
      refine w2_Sg_sortPresses (σ := σ) hn hg (by omega) (fun τ' h1 h2 => ih (i + 1) _ τ' (by push_cast; rfl) h1 h2 (by omega) (by omega)) (i + 1) i _ τ rfl t1 t2 (fun j h1 h2 => by omega) rfl (by omega) (by omega)
theorem c_Sg_sortPresses {G : zG} {n : Nat} {σ : zSt} (hn : 189 ≤ n) (hg : zGood σ 1) : Gm G y_Sg_sortPresses m_Sg_sortPresses 0 0 0 [vr G 33] n SH σ (zV n SH (fun σ' => (∀ a, a ≠ 43 → σ' a = σ a) ∧ ∀ j : Nat, (j : Int) < σ 1 8 → σ' 43 j = zord (σ 10) (σ 1 8).toNat j)) := by
  refine g_enter (L := [(0, _)]) (by decide) rfl rfl rfl (Nat.le_of_ble_eq_true rfl) (fun X => ?_)
  have hc : 0 ≤ σ 1 8 ∧ σ 1 8 ≤ 6 := hg.1.2.2
  refine g_iconst (a := 0) (by decide +kernel) ?_
  refine g_istore_n (i := 1) (L' := [(0, _), (1, _)]) (by decide +kernel) rfl rfl ?_
  exact w_Sg_sortPresses hn hg 7 0 _ σ rfl (fun _ _ => rfl) (fun j hj => by omega) (by omega) (by omega)
