/-- places of those below i have made room -/
def zmvr (b : Nat → Int) (S : zSt) (k : Nat) (p : Int) (i : Nat) : Nat → Int := fun j => if 26 ≤ j ∧ j < 26 + i ∧ j ≠ 26 + k ∧ S 2 (j - 26) = S 2 k then zsp (S 3 k) p (S 3 (j - 26)) else b j
theorem zmvr_0 (b : Nat → Int) (S : zSt) (k : Nat) (p : Int) : zmvr b S k p 0 = b := by funext j; unfold zmvr; rw [if_neg (by omega)]
theorem zmvr_no {b : Nat → Int} {S : zSt} {k : Nat} {p : Int} {i : Nat} (h : ¬ (i ≠ k ∧ S 2 i = S 2 k)) : zmvr b S k p (i + 1) = zmvr b S k p i := by
  funext j
  unfold zmvr
  by_cases z : j = 26 + i
  · rw [z, show 26 + i - 26 = i by omega, if_neg (fun y => h ⟨by omega, y.2.2.2⟩), if_neg (fun y => by omega)]
  · by_cases y : 26 ≤ j ∧ j < 26 + i ∧ j ≠ 26 + k ∧ S 2 (j - 26) = S 2 k
    · rw [if_pos y, if_pos ⟨y.1, by omega, y.2.2⟩]
    · rw [if_neg y, if_neg (fun x => y ⟨x.1, by omega, x.2.2⟩)]
theorem zmvr_yes {b : Nat → Int} {S : zSt} {k : Nat} {p v : Int} {i : Nat} (h : i ≠ k ∧ S 2 i = S 2 k) (hv : v = zsp (S 3 k) p (S 3 i)) : zu (zmvr b S k p i) (26 + i) v = zmvr b S k p (i + 1) := by
  funext j
  by_cases z : j = 26 + i
  · rw [z, zu_eq]; unfold zmvr; rw [show 26 + i - 26 = i by omega, if_pos ⟨by omega, by omega, by omega, h.2⟩]; exact hv
  · rw [zu_ne z]
    unfold zmvr
    by_cases y : 26 ≤ j ∧ j < 26 + i ∧ j ≠ 26 + k ∧ S 2 (j - 26) = S 2 k
    · rw [if_pos y, if_pos ⟨y.1, by omega, y.2.2⟩]
    · rw [if_neg y, if_neg (fun x => y ⟨x.1, by omega, x.2.2⟩)]
theorem zEqv_row3 {S S' : zSt} {c c' : Nat → Int} (hN : zN S ≤ 12 ∧ (S 0 8).toNat ≤ 6) (E : zEqv S (zMw c 0)) (hr : ∀ r, r ≠ 3 → S' r = S r) (hc : ∀ j, (j < 26 ∨ 38 ≤ j) → c' j = c j) (h3 : ∀ j, j < zN S → c' (26 + j) = S' 3 j) : zEqv S' (zMw c' 0) := by
  have hz : zN S' = zN S := by unfold zN; rw [hr 0 (by decide)]
  obtain ⟨⟨E0, E8⟩, E1, E7, E9⟩ := E
  refine ⟨⟨?_, ?_⟩, fun k hk r h1 h2 => ?_, fun k hk w hw => ?_, fun i hi => ?_⟩
  · show c' 0 = _
    rw [hc 0 (by omega), hr 0 (by decide)]; exact E0
  · show c' 1 = _
    rw [hc 1 (by omega), hr 0 (by decide)]; exact E8
  · rw [hz] at hk
    by_cases z : r = 3
    · subst z
      show c' (0 + 26 + k) = _
      rw [Nat.zero_add]; exact h3 k hk
    · have q : zMw c' 0 r k = zMw c 0 r k := by
        unfold zMw
        rw [if_neg (by omega), if_neg (by omega)]
        refine hc _ ?_
        rcases (by omega : r = 1 ∨ r = 2 ∨ r = 4 ∨ r = 5 ∨ r = 6) with rfl | rfl | rfl | rfl | rfl
        · show 0 + 2 + k < 26 ∨ _; omega
        · show 0 + 14 + k < 26 ∨ _; omega
        · show _ ∨ 38 ≤ 0 + 146 + k; omega
        · show _ ∨ 38 ≤ 0 + 158 + k; omega
        · show _ ∨ 38 ≤ 0 + 170 + k; omega
      rw [q, hr r z]; exact E1 k hk r h1 h2
  · rw [hz] at hk
    have q : zMw c' 0 7 (9 * k + w) = zMw c 0 7 (9 * k + w) := by
      show c' (0 + 38 + (9 * k + w)) = c (0 + 38 + (9 * k + w))
      rw [hc _ (by omega)]
    rw [q, hr 7 (by decide)]; exact E7 k hk w hw
  · rw [hr 0 (by decide)] at hi
    have q8 : zMw c' 0 8 i = zMw c 0 8 i := by show c' (0 + 182 + i) = c (0 + 182 + i); rw [hc _ (by omega)]
    have q9 : zMw c' 0 9 i = zMw c 0 9 i := by show c' (0 + 188 + i) = c (0 + 188 + i); rw [hc _ (by omega)]
    rw [q8, q9, hr 8 (by decide), hr 9 (by decide)]; exact E9 i hi
theorem w_Md_move {G : zG} {X : zX} {n : Nat} {σ : zSt} {τ υ : zSt} {k : Nat} {p : Int} {S : zSt} (hn : 220 ≤ n) (hF : zFine S) (hS : zMc σ S) (hk : 0 ≤ σ 189 1 ∧ σ 189 1 ≤ 8) (kN : k < zN S) (k0n : k ≠ 0) (hp : 0 ≤ p ∧ p < (zcnt (fun j => decide (S 2 j = S 2 k)) (zN S) : Int)) (hne : p ≠ S 3 k) (a0 : zAF σ τ) (s0 : τ 189 2 = 0) (c0 : τ 190 = σ 190) (k0 : τ 189 1 = σ 189 1) (hυ : ∀ a, a ≠ 190 → υ a = τ a)  : ∀ (m : Nat) (i : Nat) (x4 : Int) (L5 : List (Nat × Value)), x4 = (i : Int) → (L5 = [] ∨ ∃ v, L5 = [(5, vi v)]) → i ≤ zN S → zN S < i + m → Go G X m_Md_move (6, 0, 0, 0, 0) n SH (zrow υ 190 (zmvr (zcb (σ 190) 0 1746 194) S k p i)) 107 ([(0, vr G 189), (1, vi (k : Int)), (2, vi p), (3, vi (S 3 k)), (4, vi x4)] ++ L5) [] (zI n SH (fun a σ' => zAcM σ σ' a (if p < 0 ∨ ((0 ≤ (k : Int) ∧ (k : Int) < S 0 0) ∧ (k : Int) ≠ 0 ∧ (zcnt (fun j => decide (S 2 j = S 2 k)) (zN S) : Int) ≤ p) then 1 else if ¬ (0 ≤ (k : Int) ∧ (k : Int) < S 0 0) then 2 else if (k : Int) = 0 then 5 else if p = S 3 k then 4 else if 1999 < zlast (zOpV S k p) then 7 else 0) (S 3 k) S (zOpV S k p))) := by
  intro m
  induction m with
  | zero => intro i x4 L5 e4 h5 hi hm; exact absurd hm (by omega)
  | succ m ih =>
    intro i x4 L5 e4 h5 hi hm
    have hN := hS.N
    have hz : zN S = (S 0 0).toNat := rfl
    have cl := zcnt_le (fun j => decide (S 2 j = S 2 k)) (zN S)
    refine g_less [0, 1, 2, 3, 4] (L' := [(0, vr G 189), (1, vi (k : Int)), (2, vi p), (3, vi (S 3 k)), (4, vi x4)]) (by rcases h5 with rfl | ⟨v, rfl⟩ <;> rfl) ?_
    subst e4
    obtain ⟨ψ, eψ⟩ : ∃ ψ, ψ = zrow υ 190 (zmvr (zcb (σ 190) 0 1746 194) S k p i) := ⟨_, rfl⟩
    rw [← eψ]
    have w1 : ψ 190 = zmvr (zcb (σ 190) 0 1746 194) S k p i := by rw [eψ, zrow_eq]
    have w0 : ∀ a, a ≠ 190 → ψ a = τ a := fun a ha => by rw [eψ, zrow_ne ha]; exact hυ a ha
    have bs : ∀ j, j < 194 → (zcb (σ 190) 0 1746 194) j = σ 190 j := fun j hj => by unfold zcb; rw [if_neg (by omega)]
    have lo : ∀ j, (j < 26 ∨ 38 ≤ j) → j < 194 → ψ 190 j = σ 190 j := fun j h1 h2 => by rw [w1]; unfold zmvr; rw [if_neg (by omega), bs j h2]
    have n0 : ψ 190 0 = S 0 0 := by rw [lo 0 (by omega) (by omega)]; exact hS.n
    have ar : ∀ j, j < zN S → ψ 190 (14 + j) = S 2 j := fun j hj => by rw [lo _ (by omega) (by omega)]; exact hS.ar hj
    have ak := ar k kN
    have k3 := (hS.rg (show k < 12 by omega)).2.2.1
    have k2 := (hS.rg (show k < 12 by omega)).2.1
    refine g_iload (i := 4) (by decide +kernel) rfl ?_
    refine g_aload_n (i := 0) (by decide +kernel) rfl ?_
    refine g_cVI (st := _) (c_Md_clips hn) k_Md_clips l_Md_148 (by decide +kernel) (by omega) rfl rfl rfl rfl (Nat.le_of_ble_eq_true rfl) (by decide) ⟨by decide, by decide⟩ ?_
    rintro b0 σ9 ⟨eb0, hσ9⟩
    obtain rfl := hσ9.symm
    rw [n0] at eb0
    subst eb0
    refine g_icmp_ge (off := 90) (tgt := 203) (by decide +kernel) (by decide) ⟨by omega, by omega⟩ ⟨by omega, by omega⟩ (fun h113 => ?_) (fun h113 => ?_)
    · refine g_aload_n (i := 0) (by decide +kernel) rfl ?_
      refine g_getr f_Md_7 (by decide +kernel) (by omega) rfl rfl ?_
      refine g_bipush (a := 26) (by decide +kernel) (by decide) ?_
      refine g_iload_n (i := 1) (by decide +kernel) rfl ?_
      refine g_iadd (by decide +kernel) ?_
      refine g_iload_n (i := 2) (by decide +kernel) rfl ?_
      refine g_iast (j := (26 + k)) (by decide +kernel) (by omega) rfl (by omega) (by omega) (by decide) ?_
      refine g_aload_n (i := 0) (by decide +kernel) rfl ?_
      obtain ⟨χ, eχ⟩ : ∃ χ, χ = zs ψ 190 (26 + k) p := ⟨_, rfl⟩
      rw [← eχ]
      obtain rfl : i = zN S := by omega
      have F2 : zFin (zOpV S k p) := zOpV_fin hF.1 kN hp
      have u0 : ∀ a, a ≠ 190 → χ a = τ a := fun a ha => by rw [eχ, zs_other ha]; exact w0 a ha
      have u1 : χ 190 = zu (zmvr (zcb (σ 190) 0 1746 194) S k p (zN S)) (26 + k) p := by rw [eχ, zs_row, w1]
      have E2 : zEqv (zOpV S k p) (zMw (χ 190) 0) := by
        refine zEqv_row3 hS.b (zMw_blk hS.b (c := σ 190) (o := 0) (c' := (zcb (σ 190) 0 1746 194)) (o' := 0) (fun j hj => by rw [Nat.zero_add]; exact bs j hj) hS.1) (fun r hr => zrow_ne hr) (fun j hj => ?_) (fun j hj => ?_)
        · rw [u1, zu_ne (by omega)]; unfold zmvr; rw [if_neg (by omega)]
        · have e3 : zOpV S k p 3 = fun j => if j = k then p else if j < zN S ∧ S 2 j = S 2 k then zsp (S 3 k) p (S 3 j) else S 3 j := zrow_eq _ _ _
          rw [u1, e3]
          dsimp only
          by_cases z : j = k
          · rw [z, zu_eq, if_pos rfl]
          · rw [zu_ne (by omega), if_neg z]
            unfold zmvr
            rw [show 26 + j - 26 = j by omega]
            by_cases y : S 2 j = S 2 k
            · rw [if_pos ⟨by omega, by omega, by omega, y⟩, if_pos ⟨hj, y⟩]
            · rw [if_neg (fun x => y x.2.2.2), if_neg (fun x => y x.2), bs _ (by omega)]; exact hS.pl hj
      have hP : zMc χ (zOpV S k p) := F2.mc E2
      have lr := F2.lr
      have d1 : ∀ j, j < 194 → χ 190 (1746 + j) = σ 190 j := fun j hj => by rw [u1, zu_ne (by omega)]; unfold zmvr zcb; rw [if_neg (by omega), if_pos (by omega), show 0 + (1746 + j - 1746) = j by omega]
      have d2 : ∀ j, 194 ≤ j → j < 1746 → χ 190 j = σ 190 j := fun j h1 h2 => by rw [u1, zu_ne (by omega)]; unfold zmvr zcb; rw [if_neg (by omega), if_neg (by omega)]
      refine g_cVI (st := _) (c_Md_takesBack hn hP ⟨by omega, by omega⟩) k_Md_takesBack l_Md_335 (by decide +kernel) (by omega) rfl rfl rfl rfl (Nat.le_of_ble_eq_true rfl) (by decide) ⟨by decide, by decide⟩ ?_
      rintro b9 ω ⟨eb9, ρ, hf, hω⟩
      subst eb9
      have p0 : ∀ a, (a < 190 ∨ 195 < a) → ρ a = τ a := fun a ha => by rw [hf a (by omega), u0 a (by omega)]
      have p1 : ρ 190 = χ 190 := hf 190 (by omega)
      have A1 : zAF σ ρ := a0.of (fun a ha => p0 a (by omega))
      refine g_if_eq (off := 10) (tgt := 227) (by decide +kernel) (by decide) zbr (fun h217 => ?_) (fun h217 => ?_)
      · have h217 := zb0.mp h217
        refine g_aload_n (i := 0) (by decide +kernel) rfl ?_
        rw [if_neg h217] at hω
        subst hω
        refine g_cVV (st := _) (c_Md_stays hn (by rw [p0 189 (by omega), k0]; exact hk)) k_Md_stays l_Md_304 (by decide +kernel) (by omega) rfl rfl rfl rfl (Nat.le_of_ble_eq_true rfl) (by decide) ⟨by decide, by decide⟩ ?_
        rintro φ hφ
        refine g_iload_n (i := 3) (by decide +kernel) rfl ?_
        refine g_retI (by decide +kernel) rfl (Or.inl rfl) ⟨by decide, by decide⟩ ?_
        refine zAcM.st A1 (by rw [p0 189 (by omega)]; exact s0) (by rw [p0 189 (by omega)]; exact k0) hk hS (fun j hj => by rw [p1]; exact d1 j hj) (fun j h1 h2 => by rw [p1]; exact d2 j h1 h2) F2.b hφ ⟨fun _ _ => rfl, fun _ _ _ => rfl⟩ ?_ (by rw [if_neg (by omega), if_neg (by omega), if_neg (by omega), if_neg hne, if_neg h217]) rfl
        exact zMw_blk F2.b (c := χ 190) (o := 0) (fun j hj => by rw [hφ.2.2.1 _ (by omega), p1]) E2
      · have h217 := zb1.mp h217
        refine g_aload_n (i := 0) (by decide +kernel) rfl ?_
        refine g_bipush (a := 7) (by decide +kernel) (by decide) ?_
        refine g_cVI (st := _) (c_Md_refuse hn) k_Md_refuse l_Md_295 (by decide +kernel) (by omega) rfl rfl rfl rfl (Nat.le_of_ble_eq_true rfl) (by decide) ⟨by decide, by decide⟩ ?_
        rintro a9 σ9 ⟨ea9, hσ9⟩
        obtain rfl := ea9.symm
        subst hσ9
        refine g_retI (by decide +kernel) rfl (Or.inl rfl) ⟨by decide, by decide⟩ ?_
        rw [if_pos h217] at hω
        subst hω
        refine zAcM.no (A1.of (fun a ha => zrow_ne (by omega))) (by rw [zrow_ne (by decide), p0 189 (by omega)]; exact k0) ?_ (fun j h1 h2 => ?_) (by rw [if_neg (by omega), if_neg (by omega), if_neg (by omega), if_neg hne, if_pos h217]) (by decide)
        · rw [zrow_eq]
          exact zMw_blk hS.b (c := σ 190) (o := 0) (fun j hj => by unfold zcb; rw [if_pos (by omega), show 1746 + (0 + j - 0) = 1746 + j by omega, d1 j hj, Nat.zero_add]) hS.1
        · rw [zrow_eq]; unfold zcb; rw [if_neg (by omega)]; exact d2 j h1 h2
    · have iN : i < zN S := by omega
      have ai := ar i iN
      have i2 := (hS.rg (show i < 12 by omega)).2.1
      have i3 := (hS.rg (show i < 12 by omega)).2.2.1
      have pi : ψ 190 (26 + i) = S 3 i := by rw [w1]; unfold zmvr; rw [if_neg (by omega), bs _ (by omega)]; exact hS.pl iN
      refine g_aload_n (i := 0) (by decide +kernel) rfl ?_
      refine g_iload (i := 4) (by decide +kernel) rfl ?_
      refine g_cVI (st := _) (c_Md_around (k := i) hn (by omega)) k_Md_around l_Md_169 (by decide +kernel) (by omega) rfl rfl rfl rfl (Nat.le_of_ble_eq_true rfl) (by decide) ⟨by decide, by decide⟩ ?_
      rintro a9 σ9 ⟨ea9, hσ9⟩
      obtain rfl := hσ9.symm
      rw [ai] at ea9
      subst ea9
      refine g_aload_n (i := 0) (by decide +kernel) rfl ?_
      refine g_iload_n (i := 1) (by decide +kernel) rfl ?_
      refine g_cVI (st := _) (c_Md_around (k := k) hn (by omega)) k_Md_around l_Md_169 (by decide +kernel) (by omega) rfl rfl rfl rfl (Nat.le_of_ble_eq_true rfl) (by decide) ⟨by decide, by decide⟩ ?_
      rintro a9 σ9 ⟨ea9, hσ9⟩
      obtain rfl := hσ9.symm
      rw [ak] at ea9
      subst ea9
      refine g_icmp_ne (off := 70) (tgt := 197) (by decide +kernel) (by decide) ⟨by omega, by omega⟩ ⟨by omega, by omega⟩ (fun h127 => ?_) (fun h127 => ?_)
      · refine g_iinc (i := 4) (b := 1) (L' := [(0, _), (1, _), (2, _), (3, _), (4, _)]) (by decide +kernel) rfl rfl rfl ?_
        refine g_goto (off := -93) (tgt := 107) (by decide +kernel) (by decide) ?_
        refine g_less [0, 1, 2, 3, 4] rfl ?_
        refine g_eq (σ' := zrow υ 190 (zmvr (zcb (σ 190) 0 1746 194) S k p (i + 1))) (L' := ([(0, vr G 189), (1, vi (k : Int)), (2, vi p), (3, vi (S 3 k)), (4, vi ((i : Int) + 1))] ++ [])) (ih (i + 1) _ [] (by push_cast; rfl) (Or.inl rfl) (by omega) (by omega)) ?_ rfl rfl
        rw [eψ, zmvr_no (fun y => by omega)]
      · refine g_iload (i := 4) (by decide +kernel) rfl ?_
        refine g_iload_n (i := 1) (by decide +kernel) rfl ?_
        refine g_icmp_ne (off := 6) (tgt := 139) (by decide +kernel) (by decide) ⟨by omega, by omega⟩ ⟨by omega, by omega⟩ (fun h133 => ?_) (fun h133 => ?_)
        · have pg : zPg S := by obtain ⟨⟨d, r, hv⟩, -⟩ := hF.1.2.1; exact hv.pg
          have sk : i ≠ k ∧ S 2 i = S 2 k := ⟨by omega, by omega⟩
          have ne3 : S 3 i ≠ S 3 k := fun y => sk.1 (pg.2 i k iN kN sk.2 y)
          have zk := zsp_k (p := p) ne3
          have NX : ∀ v : Int, v = zsp (S 3 k) p (S 3 i) → Go G X m_Md_move (6, 0, 0, 0, 0) n SH ψ 196 [(0, vr G 189), (1, vi (k : Int)), (2, vi p), (3, vi (S 3 k)), (4, vi (i : Int)), (5, vi (S 3 i))] [vi v, vi (26 + (i : Int)), vr G 190] (zI n SH (fun a σ' => zAcM σ σ' a (if p < 0 ∨ ((0 ≤ (k : Int) ∧ (k : Int) < S 0 0) ∧ (k : Int) ≠ 0 ∧ (zcnt (fun j => decide (S 2 j = S 2 k)) (zN S) : Int) ≤ p) then 1 else if ¬ (0 ≤ (k : Int) ∧ (k : Int) < S 0 0) then 2 else if (k : Int) = 0 then 5 else if p = S 3 k then 4 else if 1999 < zlast (zOpV S k p) then 7 else 0) (S 3 k) S (zOpV S k p))) := by
            intro v ev
            refine g_iast (j := (26 + i)) (by decide +kernel) (by omega) rfl (by omega) (by omega) (by decide) ?_
            refine g_iinc (i := 4) (b := 1) (L' := [(0, _), (1, _), (2, _), (3, _), (4, _), (5, _)]) (by decide +kernel) rfl rfl rfl ?_
            refine g_goto (off := -93) (tgt := 107) (by decide +kernel) (by decide) ?_
            refine g_eq (σ' := zrow υ 190 (zmvr (zcb (σ 190) 0 1746 194) S k p (i + 1))) (L' := ([(0, vr G 189), (1, vi (k : Int)), (2, vi p), (3, vi (S 3 k)), (4, vi ((i : Int) + 1))] ++ [(5, vi (S 3 i))])) (ih (i + 1) _ [(5, vi (S 3 i))] (by push_cast; rfl) (Or.inr ⟨_, rfl⟩) (by omega) (by omega)) ?_ rfl rfl
            rw [eψ, zs_zrow, zmvr_yes sk ev]
          refine g_aload_n (i := 0) (by decide +kernel) rfl ?_
          refine g_getr f_Md_7 (by decide +kernel) (by omega) rfl rfl ?_
          refine g_bipush (a := 26) (by decide +kernel) (by decide) ?_
          refine g_iload (i := 4) (by decide +kernel) rfl ?_
          refine g_iadd (by decide +kernel) ?_
          refine g_iald (j := (26 + i)) (by decide +kernel) (by omega) rfl (by omega) (by omega) (by decide) ?_
          rw [pi]
          refine g_istore (i := 5) (L' := [(0, _), (1, _), (2, _), (3, _), (4, _), (5, _)]) (by decide +kernel) rfl rfl ?_
          refine g_aload_n (i := 0) (by decide +kernel) rfl ?_
          refine g_getr f_Md_7 (by decide +kernel) (by omega) rfl rfl ?_
          refine g_bipush (a := 26) (by decide +kernel) (by decide) ?_
          refine g_iload (i := 4) (by decide +kernel) rfl ?_
          refine g_iadd (by decide +kernel) ?_
          refine g_dup2 (by decide +kernel) rfl rfl ?_
          refine g_iald (j := (26 + i)) (by decide +kernel) (by omega) rfl (by omega) (by omega) (by decide) ?_
          rw [pi]
          refine g_iload (i := 5) (by decide +kernel) rfl ?_
          refine g_iload_n (i := 3) (by decide +kernel) rfl ?_
          refine g_icmp_le (off := 13) (tgt := 178) (by decide +kernel) (by decide) ⟨by omega, by omega⟩ ⟨by omega, by omega⟩ (fun h165 => ?_) (fun h165 => ?_)
          · refine g_iload (i := 5) (by decide +kernel) rfl ?_
            refine g_iload_n (i := 3) (by decide +kernel) rfl ?_
            refine g_icmp_ge (off := 13) (tgt := 194) (by decide +kernel) (by decide) ⟨by omega, by omega⟩ ⟨by omega, by omega⟩ (fun h181 => ?_) (fun h181 => ?_)
            · refine g_iconst (a := 0) (by decide +kernel) ?_
              refine g_iadd (by decide +kernel) ?_
              exact NX _ (by omega)
            · refine g_iload (i := 5) (by decide +kernel) rfl ?_
              refine g_iload_n (i := 2) (by decide +kernel) rfl ?_
              refine g_icmp_lt (off := 7) (tgt := 194) (by decide +kernel) (by decide) ⟨by omega, by omega⟩ ⟨by omega, by omega⟩ (fun h187 => ?_) (fun h187 => ?_)
              · refine g_iconst (a := 0) (by decide +kernel) ?_
                refine g_iadd (by decide +kernel) ?_
                exact NX _ (by omega)
              · refine g_iconst (a := 1) (by decide +kernel) ?_
                refine g_goto (off := 4) (tgt := 195) (by decide +kernel) (by decide) ?_
                refine g_iadd (by decide +kernel) ?_
                exact NX _ (by omega)
          · refine g_iload (i := 5) (by decide +kernel) rfl ?_
            refine g_iload_n (i := 2) (by decide +kernel) rfl ?_
            refine g_icmp_gt (off := 7) (tgt := 178) (by decide +kernel) (by decide) ⟨by omega, by omega⟩ ⟨by omega, by omega⟩ (fun h171 => ?_) (fun h171 => ?_)
            · refine g_iload (i := 5) (by decide +kernel) rfl ?_
              refine g_iload_n (i := 3) (by decide +kernel) rfl ?_
              refine g_icmp_ge (off := 13) (tgt := 194) (by decide +kernel) (by decide) ⟨by omega, by omega⟩ ⟨by omega, by omega⟩ (fun h181 => ?_) (fun h181 => ?_)
              · refine g_iconst (a := 0) (by decide +kernel) ?_
                refine g_iadd (by decide +kernel) ?_
                exact NX _ (by omega)
              · refine g_iload (i := 5) (by decide +kernel) rfl ?_
                refine g_iload_n (i := 2) (by decide +kernel) rfl ?_
                refine g_icmp_lt (off := 7) (tgt := 194) (by decide +kernel) (by decide) ⟨by omega, by omega⟩ ⟨by omega, by omega⟩ (fun h187 => ?_) (fun h187 => ?_)
                · refine g_iconst (a := 0) (by decide +kernel) ?_
                  refine g_iadd (by decide +kernel) ?_
                  exact NX _ (by omega)
                · refine g_iconst (a := 1) (by decide +kernel) ?_
                  refine g_goto (off := 4) (tgt := 195) (by decide +kernel) (by decide) ?_
                  refine g_iadd (by decide +kernel) ?_
                  exact NX _ (by omega)
            · refine g_iconst (a := -1) (by decide +kernel) ?_
              refine g_goto (off := 20) (tgt := 195) (by decide +kernel) (by decide) ?_
              refine g_iadd (by decide +kernel) ?_
              exact NX _ (by omega)
        · refine g_goto (off := 61) (tgt := 197) (by decide +kernel) (by decide) ?_
          refine g_iinc (i := 4) (b := 1) (L' := [(0, _), (1, _), (2, _), (3, _), (4, _)]) (by decide +kernel) rfl rfl rfl ?_
          refine g_goto (off := -93) (tgt := 107) (by decide +kernel) (by decide) ?_
          refine g_less [0, 1, 2, 3, 4] rfl ?_
          refine g_eq (σ' := zrow υ 190 (zmvr (zcb (σ 190) 0 1746 194) S k p (i + 1))) (L' := ([(0, vr G 189), (1, vi (k : Int)), (2, vi p), (3, vi (S 3 k)), (4, vi ((i : Int) + 1))] ++ [])) (ih (i + 1) _ [] (by push_cast; rfl) (Or.inl rfl) (by omega) (by omega)) ?_ rfl rfl
          rw [eψ, zmvr_no (fun y => by omega)]
theorem c_Md_move {G : zG} {n : Nat} {σ : zSt} {c p : Int} {S : zSt} (hn : 220 ≤ n) (hF : zFine S) (hS : zMc σ S) (hk : 0 ≤ σ 189 1 ∧ σ 189 1 ≤ 8) (z1 : zr c) (z2 : zr p) : Gm G y_Md_move m_Md_move 6 0 0 [vr G 189, vi c, vi p] n SH σ (zI n SH (fun a σ' => zAcM σ σ' a (if p < 0 ∨ ((0 ≤ c ∧ c < S 0 0) ∧ c ≠ 0 ∧ (zcnt (fun j => decide (S 2 j = S 2 c.toNat)) (zN S) : Int) ≤ p) then 1 else if ¬ (0 ≤ c ∧ c < S 0 0) then 2 else if c = 0 then 5 else if p = S 3 c.toNat then 4 else if 1999 < zlast (zOpV S c.toNat p) then 7 else 0) (S 3 c.toNat) S (zOpV S c.toNat p))) := by
  refine g_enter (L := [(0, _), (1, _), (2, _)]) (by decide) rfl rfl rfl (Nat.le_of_ble_eq_true rfl) (fun X => ?_)
  have e0 := hS.n
  have e8 := hS.p
  have hN := hS.N
  have hz : zN S = (S 0 0).toNat := rfl
  obtain ⟨z1a, z1b⟩ := id z1
  obtain ⟨z2a, z2b⟩ := id z2
  refine g_aload_n (i := 0) (by decide +kernel) rfl ?_
  refine g_iconst (a := 0) (by decide +kernel) ?_
  refine g_puti f_Md_142 (by decide +kernel) (by omega) rfl rfl ?_
  refine g_aload_n (i := 0) (by decide +kernel) rfl ?_
  refine g_iconst (a := 0) (by decide +kernel) ?_
  refine g_puti f_Md_145 (by decide +kernel) (by omega) rfl rfl ?_
  obtain ⟨τ, eτ⟩ : ∃ τ, τ = zs (zs σ 189 3 0) 189 2 0 := ⟨_, rfl⟩
  rw [← eτ]
  have a0 : zAF σ τ := by rw [eτ]; exact ((zAF.rf σ).put (by decide)).put (by decide)
  have s0 : τ 189 2 = 0 := by rw [eτ, zs_eq]
  have c0 : τ 190 = σ 190 := by rw [eτ, zs_other (by decide), zs_other (by decide)]
  have k0 : τ 189 1 = σ 189 1 := by rw [eτ, zs_ne (by decide), zs_ne (by decide)]
  have hT : zMc τ S := hS.moved c0
  have et := hT.n
  have ep := hT.p
  refine g_iload_n (i := 2) (by decide +kernel) rfl ?_
  refine g_if_ge (off := 9) (tgt := 20) (by decide +kernel) (by decide) ⟨by omega, by omega⟩ (fun h11 => ?_) (fun h11 => ?_)
  · refine g_aload_n (i := 0) (by decide +kernel) rfl ?_
    refine g_iload_n (i := 1) (by decide +kernel) rfl ?_
    refine g_cVI (st := _) (c_Md_isClip (k := c) hn (by assumption) (by rw [hT.n]; omega)) k_Md_isClip l_Md_313 (by decide +kernel) (by omega) rfl rfl rfl rfl (Nat.le_of_ble_eq_true rfl) (by decide) ⟨by decide, by decide⟩ ?_
    rintro a9 σ9 ⟨ea9, hσ9⟩
    obtain rfl := hσ9.symm
    rw [hT.n] at ea9
    subst ea9
    refine g_if_ne (off := 9) (tgt := 34) (by decide +kernel) (by decide) zbr (fun h25 => ?_) (fun h25 => ?_)
    · have h25 := zb1.mp h25
      obtain ⟨k, rfl⟩ := Int.eq_ofNat_of_zero_le h25.1
      have kN : k < zN S := by omega
      have pk := hT.pl kN
      have ak := hT.ar kN
      have kr := hT.rg (show k < 12 by omega)
      have e9k : ((k : Int)).toNat = k := Int.toNat_natCast k
      have zl := zcnt_le (fun j => decide (S 2 j = S 2 k)) (zN S)
      refine g_iload_n (i := 1) (by decide +kernel) rfl ?_
      refine g_if_le (off := 22) (tgt := 57) (by decide +kernel) (by decide) ⟨by omega, by omega⟩ (fun h35 => ?_) (fun h35 => ?_)
      · refine g_iload_n (i := 1) (by decide +kernel) rfl ?_
        refine g_if_le (off := 22) (tgt := 80) (by decide +kernel) (by decide) ⟨by omega, by omega⟩ (fun h58 => ?_) (fun h58 => ?_)
        · refine g_iload_n (i := 1) (by decide +kernel) rfl ?_
          refine g_if_ne (off := 9) (tgt := 90) (by decide +kernel) (by decide) ⟨by omega, by omega⟩ (fun h81 => ?_) (fun h81 => ?_)
          · refine g_aload_n (i := 0) (by decide +kernel) rfl ?_
            refine g_getr f_Md_7 (by decide +kernel) (by omega) rfl rfl ?_
            refine g_bipush (a := 26) (by decide +kernel) (by decide) ?_
            refine g_iload_n (i := 1) (by decide +kernel) rfl ?_
            refine g_iadd (by decide +kernel) ?_
            refine g_iald (j := (26 + k)) (by decide +kernel) (by omega) rfl (by omega) (by omega) (by decide) ?_
            rw [pk]
            refine g_istore_n (i := 3) (L' := [(0, _), (1, _), (2, _), (3, _)]) (by decide +kernel) rfl rfl ?_
            refine g_aload_n (i := 0) (by decide +kernel) rfl ?_
            refine g_cVV (st := _) (c_Md_tries hn) k_Md_tries l_Md_332 (by decide +kernel) (by omega) rfl rfl rfl rfl (Nat.le_of_ble_eq_true rfl) (by decide) ⟨by decide, by decide⟩ ?_
            rintro υ hυ
            refine g_iconst (a := 0) (by decide +kernel) ?_
            refine g_istore (i := 4) (L' := [(0, _), (1, _), (2, _), (3, _), (4, _)]) (by decide +kernel) rfl rfl ?_
            first
              | (exfalso; omega)
              | (rw [e9k]
                 refine g_eq (σ' := zrow υ 190 (zmvr (zcb (σ 190) 0 1746 194) S k p 0)) (L' := ([(0, vr G 189), (1, vi (k : Int)), (2, vi p), (3, vi (S 3 k)), (4, vi 0)] ++ [])) (w_Md_move hn hF hS hk kN (by omega) (by omega) (by omega) a0 s0 c0 k0 (fun a ha => by rw [hυ, zrow_ne ha]) (zN S + 1) 0 _ [] rfl (Or.inl rfl) (by omega) (by omega)) ?_ rfl rfl
                 rw [hυ, zmvr_0, zrow_zrow, c0])
          · refine g_aload_n (i := 0) (by decide +kernel) rfl ?_
            refine g_iconst (a := 5) (by decide +kernel) ?_
            refine g_cVI (st := _) (c_Md_refuse hn) k_Md_refuse l_Md_295 (by decide +kernel) (by omega) rfl rfl rfl rfl (Nat.le_of_ble_eq_true rfl) (by decide) ⟨by decide, by decide⟩ ?_
            rintro a9 σ9 ⟨ea9, hσ9⟩
            obtain rfl := ea9.symm
            subst hσ9
            refine g_retI (by decide +kernel) rfl (Or.inl rfl) ⟨by decide, by decide⟩ ?_
            first
              | (exfalso; omega)
              | exact zAcM.no0 a0 k0 c0 hS (by rw [e9k, if_neg (by omega), if_neg (by omega), if_pos (by omega)]) (by decide)
        · refine g_aload_n (i := 0) (by decide +kernel) rfl ?_
          refine g_getr f_Md_7 (by decide +kernel) (by omega) rfl rfl ?_
          refine g_bipush (a := 26) (by decide +kernel) (by decide) ?_
          refine g_iload_n (i := 1) (by decide +kernel) rfl ?_
          refine g_iadd (by decide +kernel) ?_
          refine g_iald (j := (26 + k)) (by decide +kernel) (by omega) rfl (by omega) (by omega) (by decide) ?_
          refine g_iload_n (i := 2) (by decide +kernel) rfl ?_
          refine g_icmp_ne (off := 9) (tgt := 80) (by decide +kernel) (by decide) ⟨by omega, by omega⟩ ⟨by omega, by omega⟩ (fun h71 => ?_) (fun h71 => ?_)
          · refine g_iload_n (i := 1) (by decide +kernel) rfl ?_
            refine g_if_ne (off := 9) (tgt := 90) (by decide +kernel) (by decide) ⟨by omega, by omega⟩ (fun h81 => ?_) (fun h81 => ?_)
            · refine g_aload_n (i := 0) (by decide +kernel) rfl ?_
              refine g_getr f_Md_7 (by decide +kernel) (by omega) rfl rfl ?_
              refine g_bipush (a := 26) (by decide +kernel) (by decide) ?_
              refine g_iload_n (i := 1) (by decide +kernel) rfl ?_
              refine g_iadd (by decide +kernel) ?_
              refine g_iald (j := (26 + k)) (by decide +kernel) (by omega) rfl (by omega) (by omega) (by decide) ?_
              rw [pk]
              refine g_istore_n (i := 3) (L' := [(0, _), (1, _), (2, _), (3, _)]) (by decide +kernel) rfl rfl ?_
              refine g_aload_n (i := 0) (by decide +kernel) rfl ?_
              refine g_cVV (st := _) (c_Md_tries hn) k_Md_tries l_Md_332 (by decide +kernel) (by omega) rfl rfl rfl rfl (Nat.le_of_ble_eq_true rfl) (by decide) ⟨by decide, by decide⟩ ?_
              rintro υ hυ
              refine g_iconst (a := 0) (by decide +kernel) ?_
              refine g_istore (i := 4) (L' := [(0, _), (1, _), (2, _), (3, _), (4, _)]) (by decide +kernel) rfl rfl ?_
              first
                | (exfalso; omega)
                | (rw [e9k]
                   refine g_eq (σ' := zrow υ 190 (zmvr (zcb (σ 190) 0 1746 194) S k p 0)) (L' := ([(0, vr G 189), (1, vi (k : Int)), (2, vi p), (3, vi (S 3 k)), (4, vi 0)] ++ [])) (w_Md_move hn hF hS hk kN (by omega) (by omega) (by omega) a0 s0 c0 k0 (fun a ha => by rw [hυ, zrow_ne ha]) (zN S + 1) 0 _ [] rfl (Or.inl rfl) (by omega) (by omega)) ?_ rfl rfl
                   rw [hυ, zmvr_0, zrow_zrow, c0])
            · refine g_aload_n (i := 0) (by decide +kernel) rfl ?_
              refine g_iconst (a := 5) (by decide +kernel) ?_
              refine g_cVI (st := _) (c_Md_refuse hn) k_Md_refuse l_Md_295 (by decide +kernel) (by omega) rfl rfl rfl rfl (Nat.le_of_ble_eq_true rfl) (by decide) ⟨by decide, by decide⟩ ?_
              rintro a9 σ9 ⟨ea9, hσ9⟩
              obtain rfl := ea9.symm
              subst hσ9
              refine g_retI (by decide +kernel) rfl (Or.inl rfl) ⟨by decide, by decide⟩ ?_
              first
                | (exfalso; omega)
                | exact zAcM.no0 a0 k0 c0 hS (by rw [e9k, if_neg (by omega), if_neg (by omega), if_pos (by omega)]) (by decide)
          · refine g_aload_n (i := 0) (by decide +kernel) rfl ?_
            refine g_iconst (a := 4) (by decide +kernel) ?_
            refine g_cVI (st := _) (c_Md_refuse hn) k_Md_refuse l_Md_295 (by decide +kernel) (by omega) rfl rfl rfl rfl (Nat.le_of_ble_eq_true rfl) (by decide) ⟨by decide, by decide⟩ ?_
            rintro a9 σ9 ⟨ea9, hσ9⟩
            obtain rfl := ea9.symm
            subst hσ9
            refine g_retI (by decide +kernel) rfl (Or.inl rfl) ⟨by decide, by decide⟩ ?_
            first
              | (exfalso; omega)
              | exact zAcM.no0 a0 k0 c0 hS (by rw [e9k, if_neg (by omega), if_neg (by omega), if_neg (by omega), if_pos (by omega)]) (by decide)
      · refine g_iload_n (i := 2) (by decide +kernel) rfl ?_
        refine g_aload_n (i := 0) (by decide +kernel) rfl ?_
        refine g_aload_n (i := 0) (by decide +kernel) rfl ?_
        refine g_iload_n (i := 1) (by decide +kernel) rfl ?_
        refine g_cVI (st := _) (c_Md_around (k := k) hn (by omega)) k_Md_around l_Md_169 (by decide +kernel) (by omega) rfl rfl rfl rfl (Nat.le_of_ble_eq_true rfl) (by decide) ⟨by decide, by decide⟩ ?_
        rintro a9 σ9 ⟨ea9, hσ9⟩
        obtain rfl := hσ9.symm
        rw [ak] at ea9
        subst ea9
        refine g_cVI (st := _) (c_Md_manyIn (q := S 2 k) hn hT ⟨by omega, by omega⟩) k_Md_manyIn l_Md_173 (by decide +kernel) (by omega) rfl rfl rfl rfl (Nat.le_of_ble_eq_true rfl) (by decide) ⟨by decide, by decide⟩ ?_
        rintro a9 σ9 ⟨ea9, hσ9⟩
        obtain rfl := hσ9.symm
        refine g_icmp_lt (off := 9) (tgt := 57) (by decide +kernel) (by decide) ⟨by omega, by omega⟩ ⟨by omega, by omega⟩ (fun h48 => ?_) (fun h48 => ?_)
        · refine g_iload_n (i := 1) (by decide +kernel) rfl ?_
          refine g_if_le (off := 22) (tgt := 80) (by decide +kernel) (by decide) ⟨by omega, by omega⟩ (fun h58 => ?_) (fun h58 => ?_)
          · refine g_iload_n (i := 1) (by decide +kernel) rfl ?_
            refine g_if_ne (off := 9) (tgt := 90) (by decide +kernel) (by decide) ⟨by omega, by omega⟩ (fun h81 => ?_) (fun h81 => ?_)
            · refine g_aload_n (i := 0) (by decide +kernel) rfl ?_
              refine g_getr f_Md_7 (by decide +kernel) (by omega) rfl rfl ?_
              refine g_bipush (a := 26) (by decide +kernel) (by decide) ?_
              refine g_iload_n (i := 1) (by decide +kernel) rfl ?_
              refine g_iadd (by decide +kernel) ?_
              refine g_iald (j := (26 + k)) (by decide +kernel) (by omega) rfl (by omega) (by omega) (by decide) ?_
              rw [pk]
              refine g_istore_n (i := 3) (L' := [(0, _), (1, _), (2, _), (3, _)]) (by decide +kernel) rfl rfl ?_
              refine g_aload_n (i := 0) (by decide +kernel) rfl ?_
              refine g_cVV (st := _) (c_Md_tries hn) k_Md_tries l_Md_332 (by decide +kernel) (by omega) rfl rfl rfl rfl (Nat.le_of_ble_eq_true rfl) (by decide) ⟨by decide, by decide⟩ ?_
              rintro υ hυ
              refine g_iconst (a := 0) (by decide +kernel) ?_
              refine g_istore (i := 4) (L' := [(0, _), (1, _), (2, _), (3, _), (4, _)]) (by decide +kernel) rfl rfl ?_
              first
                | (exfalso; omega)
                | (rw [e9k]
                   refine g_eq (σ' := zrow υ 190 (zmvr (zcb (σ 190) 0 1746 194) S k p 0)) (L' := ([(0, vr G 189), (1, vi (k : Int)), (2, vi p), (3, vi (S 3 k)), (4, vi 0)] ++ [])) (w_Md_move hn hF hS hk kN (by omega) (by omega) (by omega) a0 s0 c0 k0 (fun a ha => by rw [hυ, zrow_ne ha]) (zN S + 1) 0 _ [] rfl (Or.inl rfl) (by omega) (by omega)) ?_ rfl rfl
                   rw [hυ, zmvr_0, zrow_zrow, c0])
            · refine g_aload_n (i := 0) (by decide +kernel) rfl ?_
              refine g_iconst (a := 5) (by decide +kernel) ?_
              refine g_cVI (st := _) (c_Md_refuse hn) k_Md_refuse l_Md_295 (by decide +kernel) (by omega) rfl rfl rfl rfl (Nat.le_of_ble_eq_true rfl) (by decide) ⟨by decide, by decide⟩ ?_
              rintro a9 σ9 ⟨ea9, hσ9⟩
              obtain rfl := ea9.symm
              subst hσ9
              refine g_retI (by decide +kernel) rfl (Or.inl rfl) ⟨by decide, by decide⟩ ?_
              first
                | (exfalso; omega)
                | exact zAcM.no0 a0 k0 c0 hS (by rw [e9k, if_neg (by omega), if_neg (by omega), if_pos (by omega)]) (by decide)
          · refine g_aload_n (i := 0) (by decide +kernel) rfl ?_
            refine g_getr f_Md_7 (by decide +kernel) (by omega) rfl rfl ?_
            refine g_bipush (a := 26) (by decide +kernel) (by decide) ?_
            refine g_iload_n (i := 1) (by decide +kernel) rfl ?_
            refine g_iadd (by decide +kernel) ?_
            refine g_iald (j := (26 + k)) (by decide +kernel) (by omega) rfl (by omega) (by omega) (by decide) ?_
            refine g_iload_n (i := 2) (by decide +kernel) rfl ?_
            refine g_icmp_ne (off := 9) (tgt := 80) (by decide +kernel) (by decide) ⟨by omega, by omega⟩ ⟨by omega, by omega⟩ (fun h71 => ?_) (fun h71 => ?_)
            · refine g_iload_n (i := 1) (by decide +kernel) rfl ?_
              refine g_if_ne (off := 9) (tgt := 90) (by decide +kernel) (by decide) ⟨by omega, by omega⟩ (fun h81 => ?_) (fun h81 => ?_)
              · refine g_aload_n (i := 0) (by decide +kernel) rfl ?_
                refine g_getr f_Md_7 (by decide +kernel) (by omega) rfl rfl ?_
                refine g_bipush (a := 26) (by decide +kernel) (by decide) ?_
                refine g_iload_n (i := 1) (by decide +kernel) rfl ?_
                refine g_iadd (by decide +kernel) ?_
                refine g_iald (j := (26 + k)) (by decide +kernel) (by omega) rfl (by omega) (by omega) (by decide) ?_
                rw [pk]
                refine g_istore_n (i := 3) (L' := [(0, _), (1, _), (2, _), (3, _)]) (by decide +kernel) rfl rfl ?_
                refine g_aload_n (i := 0) (by decide +kernel) rfl ?_
                refine g_cVV (st := _) (c_Md_tries hn) k_Md_tries l_Md_332 (by decide +kernel) (by omega) rfl rfl rfl rfl (Nat.le_of_ble_eq_true rfl) (by decide) ⟨by decide, by decide⟩ ?_
                rintro υ hυ
                refine g_iconst (a := 0) (by decide +kernel) ?_
                refine g_istore (i := 4) (L' := [(0, _), (1, _), (2, _), (3, _), (4, _)]) (by decide +kernel) rfl rfl ?_
                first
                  | (exfalso; omega)
                  | (rw [e9k]
                     refine g_eq (σ' := zrow υ 190 (zmvr (zcb (σ 190) 0 1746 194) S k p 0)) (L' := ([(0, vr G 189), (1, vi (k : Int)), (2, vi p), (3, vi (S 3 k)), (4, vi 0)] ++ [])) (w_Md_move hn hF hS hk kN (by omega) (by omega) (by omega) a0 s0 c0 k0 (fun a ha => by rw [hυ, zrow_ne ha]) (zN S + 1) 0 _ [] rfl (Or.inl rfl) (by omega) (by omega)) ?_ rfl rfl
                     rw [hυ, zmvr_0, zrow_zrow, c0])
              · refine g_aload_n (i := 0) (by decide +kernel) rfl ?_
                refine g_iconst (a := 5) (by decide +kernel) ?_
                refine g_cVI (st := _) (c_Md_refuse hn) k_Md_refuse l_Md_295 (by decide +kernel) (by omega) rfl rfl rfl rfl (Nat.le_of_ble_eq_true rfl) (by decide) ⟨by decide, by decide⟩ ?_
                rintro a9 σ9 ⟨ea9, hσ9⟩
                obtain rfl := ea9.symm
                subst hσ9
                refine g_retI (by decide +kernel) rfl (Or.inl rfl) ⟨by decide, by decide⟩ ?_
                first
                  | (exfalso; omega)
                  | exact zAcM.no0 a0 k0 c0 hS (by rw [e9k, if_neg (by omega), if_neg (by omega), if_pos (by omega)]) (by decide)
            · refine g_aload_n (i := 0) (by decide +kernel) rfl ?_
              refine g_iconst (a := 4) (by decide +kernel) ?_
              refine g_cVI (st := _) (c_Md_refuse hn) k_Md_refuse l_Md_295 (by decide +kernel) (by omega) rfl rfl rfl rfl (Nat.le_of_ble_eq_true rfl) (by decide) ⟨by decide, by decide⟩ ?_
              rintro a9 σ9 ⟨ea9, hσ9⟩
              obtain rfl := ea9.symm
              subst hσ9
              refine g_retI (by decide +kernel) rfl (Or.inl rfl) ⟨by decide, by decide⟩ ?_
              first
                | (exfalso; omega)
                | exact zAcM.no0 a0 k0 c0 hS (by rw [e9k, if_neg (by omega), if_neg (by omega), if_neg (by omega), if_pos (by omega)]) (by decide)
        · refine g_aload_n (i := 0) (by decide +kernel) rfl ?_
          refine g_iconst (a := 1) (by decide +kernel) ?_
          refine g_cVI (st := _) (c_Md_refuse hn) k_Md_refuse l_Md_295 (by decide +kernel) (by omega) rfl rfl rfl rfl (Nat.le_of_ble_eq_true rfl) (by decide) ⟨by decide, by decide⟩ ?_
          rintro a9 σ9 ⟨ea9, hσ9⟩
          obtain rfl := ea9.symm
          subst hσ9
          refine g_retI (by decide +kernel) rfl (Or.inl rfl) ⟨by decide, by decide⟩ ?_
          exact zAcM.no0 a0 k0 c0 hS (by rw [e9k, if_pos (by omega)]) (by decide)
    · have h25 := zb0.mp h25
      refine g_aload_n (i := 0) (by decide +kernel) rfl ?_
      refine g_iconst (a := 2) (by decide +kernel) ?_
      refine g_cVI (st := _) (c_Md_refuse hn) k_Md_refuse l_Md_295 (by decide +kernel) (by omega) rfl rfl rfl rfl (Nat.le_of_ble_eq_true rfl) (by decide) ⟨by decide, by decide⟩ ?_
      rintro a9 σ9 ⟨ea9, hσ9⟩
      obtain rfl := ea9.symm
      subst hσ9
      refine g_retI (by decide +kernel) rfl (Or.inl rfl) ⟨by decide, by decide⟩ ?_
      exact zAcM.no0 a0 k0 c0 hS (by rw [if_neg (by omega), if_pos h25]) (by decide)
  · refine g_aload_n (i := 0) (by decide +kernel) rfl ?_
    refine g_iconst (a := 1) (by decide +kernel) ?_
    refine g_cVI (st := _) (c_Md_refuse hn) k_Md_refuse l_Md_295 (by decide +kernel) (by omega) rfl rfl rfl rfl (Nat.le_of_ble_eq_true rfl) (by decide) ⟨by decide, by decide⟩ ?_
    rintro a9 σ9 ⟨ea9, hσ9⟩
    obtain rfl := ea9.symm
    subst hσ9
    refine g_retI (by decide +kernel) rfl (Or.inl rfl) ⟨by decide, by decide⟩ ?_
    exact zAcM.no0 a0 k0 c0 hS (if_pos (by omega)) (by decide)
