theorem zb31 {p : Nat → Bool} {n : Nat} (h : n ≤ 12) : zbits p n < 2147483648 := Nat.lt_of_lt_of_le (zbits_le (m := 12) h) (by decide)
theorem zbits_and2 {p q : Nat → Bool} {n : Nat} : zbits p n &&& zbits q n = zbits (fun j => p j && q j) n := by
  apply Nat.eq_of_testBit_eq
  intro i
  rw [Nat.testBit_and, zbits_test, zbits_test, zbits_test]
  cases decide (i < n) <;> cases p i <;> cases q i <;> rfl
theorem zbits_or2 {p q : Nat → Bool} {n : Nat} : zbits p n ||| zbits q n = zbits (fun j => p j || q j) n := by
  apply Nat.eq_of_testBit_eq
  intro i
  rw [Nat.testBit_or, zbits_test, zbits_test, zbits_test]
  cases decide (i < n) <;> cases p i <;> cases q i <;> rfl
theorem zbits_not2 {p q r : Nat → Bool} {n : Nat} (hn : n ≤ 12) : (zbits p n &&& (zbits q n ^^^ 4294967295)) &&& zbits r n = zbits (fun j => p j && !q j && r j) n := by
  apply Nat.eq_of_testBit_eq
  intro i
  rw [Nat.testBit_and, Nat.testBit_and, Nat.testBit_xor, show (4294967295 : Nat) = 2 ^ 32 - 1 by decide, Nat.testBit_two_pow_sub_one, zbits_test, zbits_test, zbits_test, zbits_test]
  by_cases hi : i < n
  · rw [decide_eq_true hi, decide_eq_true (show i < 32 by omega)]
    cases p i <;> cases q i <;> cases r i <;> rfl
  · rw [decide_eq_false hi]; simp
theorem zbits_0 {p : Nat → Bool} {n : Nat} : zbits p n = 0 ↔ ∀ j, j < n → p j = false := by
  constructor
  · intro h j hj
    have := zbits_test (p := p) (n := n) (k := j)
    rw [h, Nat.zero_testBit, decide_eq_true hj, Bool.true_and] at this
    exact this.symm
  · intro h
    apply Nat.eq_of_testBit_eq
    intro i
    rw [zbits_test, Nat.zero_testBit]
    by_cases hi : i < n
    · rw [h i hi, Bool.and_false]
    · rw [decide_eq_false hi]; rfl
theorem zcnt_0 {p : Nat → Bool} : ∀ {n : Nat}, zcnt p n = 0 ↔ ∀ j, j < n → p j = false
  | 0 => ⟨fun _ j hj => by omega, fun _ => rfl⟩
  | n + 1 => by
    have ih := zcnt_0 (p := p) (n := n)
    constructor
    · intro h j hj
      unfold zcnt at h
      rcases Nat.lt_or_ge j n with z | z
      · exact ih.mp (by omega) j z
      · rw [show j = n by omega]
        cases hp : p n with
        | false => rfl
        | true => rw [hp, if_pos rfl] at h; omega
    · intro h
      unfold zcnt
      rw [ih.mpr (fun j hj => h j (by omega)), h n (by omega)]
      rfl
theorem zi_xorm {x : Nat} (hx : x < 2147483648) : Int32.ofInt (x : Int) ^^^ Int32.ofInt (-1) = Int32.ofInt ((x ^^^ 4294967295 : Nat) : Int) := by
  have e : Int32.ofInt (-1) = Int32.ofInt ((4294967295 : Nat) : Int) := by decide
  have h : x ^^^ 4294967295 < 4294967296 := Nat.xor_lt_two_pow (n := 32) (by omega) (by decide)
  rw [e, zi_nat, zi_nat, zi_nat]
  apply Int32.toBitVec_inj.mp
  apply BitVec.eq_of_toNat_eq
  rw [Int32.toBitVec_xor, BitVec.toNat_xor, pk_tn (by omega), pk_tn (by omega), pk_tn (by omega)]
theorem zi_andu {x y : Nat} (hx : x < 2147483648) (hy : y < 4294967296) : Int32.ofInt (x : Int) &&& Int32.ofInt (y : Int) = Int32.ofInt ((x &&& y : Nat) : Int) := by
  have h : x &&& y ≤ x := Nat.and_le_left
  rw [zi_nat, zi_nat, zi_nat]
  apply Int32.toBitVec_inj.mp
  apply BitVec.eq_of_toNat_eq
  rw [Int32.toBitVec_and, BitVec.toNat_and, pk_tn (by omega), pk_tn (by omega), pk_tn (by omega)]
section GO
variable {G : zG} {X : zX} {M : zM} {κ : zK} {n : Nat} {sh : Nat → zSh} {σ : zSt} {pc : Nat} {L L' : List (Nat × Value)} {st : List Value} {post : zPost}
theorem g_ixorm {x : Nat} (hd : decode M.1 pc = .ok (.ixor, 1)) (hx : x < 2147483648) (k : Go G X M κ n sh σ (pc + 1) L (vi ((x ^^^ 4294967295 : Nat) : Int) :: st) post) : Go G X M κ n sh σ pc L (vi (-1) :: vi (x : Int) :: st) post := fun C H locs ls h1 h2 h3 h4 => lv_ixor C.1 C.2.1 hd (by rw [zi_xorm hx]; exact k C H locs ls h1 h2 h3 h4)
theorem g_iandu {x y : Nat} (hd : decode M.1 pc = .ok (.iand, 1)) (hx : x < 2147483648) (hy : y < 4294967296) (k : Go G X M κ n sh σ (pc + 1) L (vi ((x &&& y : Nat) : Int) :: st) post) : Go G X M κ n sh σ pc L (vi (y : Int) :: vi (x : Int) :: st) post := fun C H locs ls h1 h2 h3 h4 => lv_iand C.1 C.2.1 hd (by rw [zi_andu hx hy]; exact k C H locs ls h1 h2 h3 h4)
end GO
/-- whether leaf j plays at t -/
noncomputable def zlf (S : zSt) (t : Int) (j : Nat) : Bool := decide (zv S t 1 j = 2) && decide (S 1 j = 0)
theorem zLo.lf {σ τ : zSt} (h : zLo σ τ) (ho : zOn σ) (t : Int) : zlf (zSv τ 1) t = zlf (zSv σ 1) t := by
  funext j
  unfold zlf
  rw [zv_low (fun a ha => h.2 a (Or.inl ha)) ho t]
  show (_ && decide (τ 2 j = 0)) = (_ && decide (σ 2 j = 0))
  rw [h.2 2 (by decide)]
theorem c_Nc_leavesPlaying {G : zG} {n : Nat} {σ : zSt} {t : Int} (hn : 189 ≤ n) (ho : zOn σ) (hR : zRs (σ 93)) (ht : 0 ≤ t ∧ t ≤ 1999) : Gm G y_Nc_leavesPlaying m_Nc_leavesPlaying 5 0 0 [vr G 0, vi t] n SH σ (zI n SH (fun a σ' => zLo σ σ' ∧ a = (zbits (zlf (zSv σ 1) t) (σ 1 0).toNat : Int))) := by
  refine g_enter (L := [(0, _), (1, _)]) (by decide) rfl rfl rfl (Nat.le_of_ble_eq_true rfl) (fun X => ?_)
  have hc := ho.1.1
  obtain ⟨N, eN⟩ := Int.eq_ofNat_of_zero_le hc.1
  have NN : zN (zSv σ 1) = N := by show (σ 1 0).toNat = N; omega
  have N1 : (σ 1 0).toNat = N := by omega
  refine g_aload_n (i := 0) (by decide +kernel) rfl ?_
  refine g_getr f_Nc_34 (by decide +kernel) (by omega) rfl rfl ?_
  refine g_iload_n (i := 1) (by decide +kernel) rfl ?_
  refine g_cVO (st := _) (c_Sg_at hn ho ⟨by omega, by omega⟩) k_Sg_at l_Nc_255 (by decide +kernel) (by omega) rfl rfl rfl rfl (Nat.le_of_ble_eq_true rfl) (by decide) ⟨by decide, by decide⟩ ?_
  rintro q τ1 ⟨eq, hA⟩
  subst eq
  refine g_iconst (a := 2) (by decide +kernel) ?_
  refine g_aload_n (i := 0) (by decide +kernel) rfl ?_
  refine g_getr f_Nc_10 (by decide +kernel) (by omega) rfl rfl ?_
  refine g_geti f_Nc_111 (by decide +kernel) (by omega) rfl rfl ?_
  have eT : τ1 1 0 = (N : Int) := by rw [hA.1 1 (by decide)]; exact eN
  rw [eT]
  refine g_cVI (st := _) (c_Mo_bitsOf (b := 34) (N := N) hn mo_34 (fun k hk => ((hA.on ho).mr.2 k hk).1) (by omega) ⟨by decide, by decide⟩) k_Mo_bitsOf l_Nc_273 (by decide +kernel) (by omega) rfl rfl rfl rfl (Nat.le_of_ble_eq_true rfl) (by decide) ⟨by decide, by decide⟩ ?_
  rintro a σ9 ⟨ea, hσ⟩
  obtain rfl := hσ.symm
  have ea : a = (zbits (fun j => decide (zv (zSv σ 1) t 1 j = 2)) N : Int) := by
    rw [ea]
    congr 1
    exact zbits_congr (fun k hk => by rw [show τ1 (34 + 1) k = zv (zSv σ 1) t 1 k from hA.2.2.1 k (by omega) 1 (by decide) (by decide)])
  subst ea
  refine g_aload_n (i := 0) (by decide +kernel) rfl ?_
  refine g_getr f_Nc_10 (by decide +kernel) (by omega) rfl rfl ?_
  refine g_cVI (st := _) (c_Sh_bitsOfLeaves (b := 1) hn sh_1 (hA.on ho).1) k_Sh_bitsOfLeaves l_Nc_295 (by decide +kernel) (by omega) rfl rfl rfl rfl (Nat.le_of_ble_eq_true rfl) (by decide) ⟨by decide, by decide⟩ ?_
  rintro a σ9 ⟨ea, hσ⟩
  obtain rfl := hσ.symm
  have ea : a = (zbits (fun j => decide (σ 2 j = 0)) N : Int) := by
    rw [ea, show (1 + 1 : Nat) = 2 from rfl, hA.1 2 (by decide), hA.1 1 (by decide), N1]
  subst ea
  refine g_iand (by decide +kernel) (zb31 (by omega)) (zb31 (by omega)) ?_
  refine g_retI (by decide +kernel) rfl (Or.inl rfl) ⟨by decide, by decide⟩ ?_
  refine ⟨⟨hA.on ho, hA.1⟩, ?_⟩
  rw [zbits_and2, N1]
  rfl
theorem w_Nc_most {G : zG} {X : zX} {n : Nat} {σ : zSt} {u : Int} (hn : 189 ≤ n) (ho : zOn σ) (hR : zRs (σ 93)) (hu : 0 ≤ u ∧ u ≤ 1) : ∀ (m : Nat) (t : Nat) (x2 x3 x4 : Int) (τ : zSt), x4 = (t : Int) → (x2, x3) = zgr (fun s => (zcnt (zlf (zSv σ 1) (s : Int)) (σ 1 0).toNat : Int)) 0 t → (0 ≤ x2 ∧ x2 ≤ 12) → zLo σ τ → t ≤ 2000 → 2000 < t + m → Go G X m_Nc_most (7, 0, 0, 0, 0) n SH τ 22 [(0, vr G 0), (1, vi u), (2, vi x2), (3, vi x3), (4, vi x4)] [] (zI n SH (fun a σ' => zRes σ σ' a (if u < 0 ∨ 1 < u then 1 else 0) (if u = 0 then (zgr (fun s => (zcnt (zlf (zSv σ 1) (s : Int)) (σ 1 0).toNat : Int)) 0 2000).1 else (zgr (fun s => (zcnt (zlf (zSv σ 1) (s : Int)) (σ 1 0).toNat : Int)) 0 2000).2))) := by
  intro m
  induction m with
  | zero => intro t x2 x3 x4 τ e4 e2 hx hL ht hm; exact absurd hm (by omega)
  | succ m ih =>
    intro t x2 x3 x4 τ e4 e2 hx hL ht hm
    have hc := ho.1.1
    subst e4
    refine g_iload (i := 4) (by decide +kernel) rfl ?_
    refine g_sipush (a := 1999) (by decide +kernel) (by decide) ?_
    refine g_icmp_gt (off := 32) (tgt := 59) (by decide +kernel) (by decide) ⟨by omega, by omega⟩ ⟨by omega, by omega⟩ (fun h27 => ?_) (fun h27 => ?_)
    · refine g_aload_n (i := 0) (by decide +kernel) rfl ?_
      refine g_iload_n (i := 1) (by decide +kernel) rfl ?_
      refine g_if_ne (off := 7) (tgt := 68) (by decide +kernel) (by decide) ⟨by omega, by omega⟩ (fun h61 => ?_) (fun h61 => ?_)
      · refine g_iload_n (i := 3) (by decide +kernel) rfl ?_
        refine g_cVI (st := _) (c_Nc_give hn) k_Nc_give l_Nc_208 (by decide +kernel) (by omega) rfl rfl rfl rfl (Nat.le_of_ble_eq_true rfl) (by decide) ⟨by decide, by decide⟩ ?_
        rintro a9 σ9 ⟨ea9, hσ9⟩
        obtain rfl := ea9.symm
        subst hσ9
        refine g_retI (by decide +kernel) rfl (Or.inl rfl) ⟨by decide, by decide⟩ ?_
        rw [show t = 2000 by omega] at e2
        first
          | (have hz : u = 0 := h61
             exact zRes.ok (hL.q hR) (if_neg (by omega)) (by rw [if_pos hz, ← e2]))
          | exact zRes.ok (hL.q hR) (if_neg (by omega)) (by rw [if_neg h61, ← e2])
      · refine g_iload_n (i := 2) (by decide +kernel) rfl ?_
        refine g_goto (off := 4) (tgt := 69) (by decide +kernel) (by decide) ?_
        refine g_cVI (st := _) (c_Nc_give hn) k_Nc_give l_Nc_208 (by decide +kernel) (by omega) rfl rfl rfl rfl (Nat.le_of_ble_eq_true rfl) (by decide) ⟨by decide, by decide⟩ ?_
        rintro a9 σ9 ⟨ea9, hσ9⟩
        obtain rfl := ea9.symm
        subst hσ9
        refine g_retI (by decide +kernel) rfl (Or.inl rfl) ⟨by decide, by decide⟩ ?_
        rw [show t = 2000 by omega] at e2
        first
          | (have hz : u = 0 := h61
             exact zRes.ok (hL.q hR) (if_neg (by omega)) (by rw [if_pos hz, ← e2]))
          | exact zRes.ok (hL.q hR) (if_neg (by omega)) (by rw [if_neg h61, ← e2])
    · refine g_aload_n (i := 0) (by decide +kernel) rfl ?_
      refine g_iload (i := 4) (by decide +kernel) rfl ?_
      refine g_cVI (st := _) (c_Nc_leavesPlaying (t := (t : Int)) hn hL.1 (by rw [hL.2 93 (by decide)]; exact hR) ⟨by omega, by omega⟩) k_Nc_leavesPlaying l_Nc_338 (by decide +kernel) (by omega) rfl rfl rfl rfl (Nat.le_of_ble_eq_true rfl) (by decide) ⟨by decide, by decide⟩ ?_
      rintro a τ1 ⟨hL1, ea⟩
      have hL1 : zLo σ τ1 := ⟨hL1.1, fun a ha => (hL1.2 a ha).trans (hL.2 a ha)⟩
      have ea : a = (zbits (zlf (zSv σ 1) (t : Int)) (σ 1 0).toNat : Int) := by rw [ea, hL.lf ho, hL.2 1 (by decide)]
      subst ea
      have zb := zb31 (p := zlf (zSv σ 1) (t : Int)) (n := (σ 1 0).toNat) (by omega)
      refine g_cSI (st := _) (c_In_bitCount (zbits_le (m := 12) (by omega))) k_In_bitCount l_Nc_341 (by decide +kernel) rfl rfl (Nat.le_of_ble_eq_true rfl) (by decide) ⟨by decide, by decide⟩ ?_
      rintro a σ9 ⟨ea, hσ⟩
      obtain rfl := hσ.symm
      rw [zpop_bits (by omega)] at ea
      have zc := zcnt_le (zlf (zSv σ 1) (t : Int)) (σ 1 0).toNat
      subst ea
      refine g_istore (i := 5) (L' := [(0, _), (1, _), (2, _), (3, _), (4, _), (5, _)]) (by decide +kernel) rfl rfl ?_
      refine g_iload (i := 5) (by decide +kernel) rfl ?_
      refine g_iload_n (i := 2) (by decide +kernel) rfl ?_
      refine g_icmp_le (off := 9) (tgt := 53) (by decide +kernel) (by decide) ⟨by omega, by omega⟩ ⟨by omega, by omega⟩ (fun h44 => ?_) (fun h44 => ?_)
      · have e2 : (x2, x3) = zgr (fun s => (zcnt (zlf (zSv σ 1) (s : Int)) (σ 1 0).toNat : Int)) 0 (t + 1) := by rw [zgr_s, ← e2, if_neg (by show ¬ x2 < _; omega)]
        refine g_iinc (i := 4) (b := 1) (L' := [(0, _), (1, _), (2, _), (3, _), (4, _), (5, _)]) (by decide +kernel) rfl rfl rfl ?_
        refine g_goto (off := -34) (tgt := 22) (by decide +kernel) (by decide) ?_
        exact g_less [0, 1, 2, 3, 4] rfl (ih (t + 1) _ _ _ _ (by push_cast; rfl) e2 hx hL1 (by omega) (by omega))
      · have e2 : ((zcnt (zlf (zSv σ 1) (t : Int)) (σ 1 0).toNat : Int), (t : Int)) = zgr (fun s => (zcnt (zlf (zSv σ 1) (s : Int)) (σ 1 0).toNat : Int)) 0 (t + 1) := by rw [zgr_s, ← e2, if_pos h44]
        have hx : 0 ≤ (zcnt (zlf (zSv σ 1) (t : Int)) (σ 1 0).toNat : Int) ∧ (zcnt (zlf (zSv σ 1) (t : Int)) (σ 1 0).toNat : Int) ≤ 12 := ⟨by omega, by omega⟩
        refine g_iload (i := 5) (by decide +kernel) rfl ?_
        refine g_istore_n (i := 2) (L' := [(0, _), (1, _), (2, _), (3, _), (4, _), (5, _)]) (by decide +kernel) rfl rfl ?_
        refine g_iload (i := 4) (by decide +kernel) rfl ?_
        refine g_istore_n (i := 3) (L' := [(0, _), (1, _), (2, _), (3, _), (4, _), (5, _)]) (by decide +kernel) rfl rfl ?_
        refine g_iinc (i := 4) (b := 1) (L' := [(0, _), (1, _), (2, _), (3, _), (4, _), (5, _)]) (by decide +kernel) rfl rfl rfl ?_
        refine g_goto (off := -34) (tgt := 22) (by decide +kernel) (by decide) ?_
        exact g_less [0, 1, 2, 3, 4] rfl (ih (t + 1) _ _ _ _ (by push_cast; rfl) e2 hx hL1 (by omega) (by omega))
theorem c_Nc_most {G : zG} {n : Nat} {σ : zSt} {u : Int} (hn : 189 ≤ n) (ho : zOn σ) (hR : zRs (σ 93)) (z1 : zr u) : Gm G y_Nc_most m_Nc_most 7 0 0 [vr G 0, vi u] n SH σ (zI n SH (fun a σ' => zRes σ σ' a (if u < 0 ∨ 1 < u then 1 else 0) (if u = 0 then (zgr (fun s => (zcnt (zlf (zSv σ 1) (s : Int)) (σ 1 0).toNat : Int)) 0 2000).1 else (zgr (fun s => (zcnt (zlf (zSv σ 1) (s : Int)) (σ 1 0).toNat : Int)) 0 2000).2))) := by
  refine g_enter (L := [(0, _), (1, _)]) (by decide) rfl rfl rfl (Nat.le_of_ble_eq_true rfl) (fun X => ?_)
  have hc := ho.1.1
  obtain ⟨z1a, z1b⟩ := id z1
  refine g_iload_n (i := 1) (by decide +kernel) rfl ?_
  refine g_if_lt (off := 8) (tgt := 9) (by decide +kernel) (by decide) ⟨by omega, by omega⟩ (fun h1 => ?_) (fun h1 => ?_)
  · refine g_aload_n (i := 0) (by decide +kernel) rfl ?_
    refine g_iconst (a := 1) (by decide +kernel) ?_
    refine g_cVI (st := _) (c_Nc_refuse hn) k_Nc_refuse l_Nc_97 (by decide +kernel) (by omega) rfl rfl rfl rfl (Nat.le_of_ble_eq_true rfl) (by decide) ⟨by decide, by decide⟩ ?_
    rintro a9 σ9 ⟨ea9, hσ9⟩
    obtain rfl := ea9.symm
    subst hσ9
    refine g_retI (by decide +kernel) rfl (Or.inl rfl) ⟨by decide, by decide⟩ ?_
    exact zRes.no (zQf.rf ho hR) (if_pos (by omega)) (by decide)
  · refine g_iload_n (i := 1) (by decide +kernel) rfl ?_
    refine g_iconst (a := 1) (by decide +kernel) ?_
    refine g_icmp_le (off := 9) (tgt := 15) (by decide +kernel) (by decide) ⟨by omega, by omega⟩ ⟨by omega, by omega⟩ (fun h6 => ?_) (fun h6 => ?_)
    · refine g_iconst (a := 0) (by decide +kernel) ?_
      refine g_istore_n (i := 2) (L' := [(0, _), (1, _), (2, _)]) (by decide +kernel) rfl rfl ?_
      refine g_iconst (a := 0) (by decide +kernel) ?_
      refine g_istore_n (i := 3) (L' := [(0, _), (1, _), (2, _), (3, _)]) (by decide +kernel) rfl rfl ?_
      refine g_iconst (a := 0) (by decide +kernel) ?_
      refine g_istore (i := 4) (L' := [(0, _), (1, _), (2, _), (3, _), (4, _)]) (by decide +kernel) rfl rfl ?_
      exact w_Nc_most hn ho hR ⟨by omega, by omega⟩ 2001 0 _ _ _ σ rfl rfl (by omega) (zLo.rf ho) (by omega) (by omega)
    · refine g_aload_n (i := 0) (by decide +kernel) rfl ?_
      refine g_iconst (a := 1) (by decide +kernel) ?_
      refine g_cVI (st := _) (c_Nc_refuse hn) k_Nc_refuse l_Nc_97 (by decide +kernel) (by omega) rfl rfl rfl rfl (Nat.le_of_ble_eq_true rfl) (by decide) ⟨by decide, by decide⟩ ?_
      rintro a9 σ9 ⟨ea9, hσ9⟩
      obtain rfl := ea9.symm
      subst hσ9
      refine g_retI (by decide +kernel) rfl (Or.inl rfl) ⟨by decide, by decide⟩ ?_
      exact zRes.no (zQf.rf ho hR) (if_pos (by omega)) (by decide)
theorem w_Nc_gaps {G : zG} {X : zX} {n : Nat} {σ : zSt} (hn : 189 ≤ n) (ho : zOn σ) (hR : zRs (σ 93)) (hl : 0 ≤ σ 21 5 ∧ σ 21 5 ≤ 1999) : ∀ (m : Nat) (t : Nat) (x1 x2 : Int) (τ : zSt), x2 = (t : Int) → x1 = (zcnt (fun s => decide (zcnt (zlf (zSv σ 1) (s : Int)) (σ 1 0).toNat = 0)) t : Int) → zLo σ τ → t ≤ (σ 21 5).toNat → (σ 21 5).toNat < t + m → Go G X m_Nc_gaps (6, 0, 0, 0, 0) n SH τ 4 [(0, vr G 0), (1, vi x1), (2, vi x2)] [] (zI n SH (fun a σ' => zRes σ σ' a 0 (zcnt (fun s => decide (zcnt (zlf (zSv σ 1) (s : Int)) (σ 1 0).toNat = 0)) (σ 21 5).toNat : Int))) := by
  intro m
  induction m with
  | zero => intro t x1 x2 τ e2 e1 hL ht hm; exact absurd hm (by omega)
  | succ m ih =>
    intro t x1 x2 τ e2 e1 hL ht hm
    have hc := ho.1.1
    have l5 : τ 21 5 = σ 21 5 := by rw [hL.2 21 (by decide)]
    subst e2
    refine g_iload_n (i := 2) (by decide +kernel) rfl ?_
    refine g_aload_n (i := 0) (by decide +kernel) rfl ?_
    refine g_getr f_Nc_22 (by decide +kernel) (by omega) rfl rfl ?_
    refine g_geti f_Nc_215 (by decide +kernel) (by omega) rfl rfl ?_
    refine g_icmp_ge (off := 27) (tgt := 39) (by decide +kernel) (by decide) ⟨by omega, by omega⟩ ⟨by omega, by omega⟩ (fun h12 => ?_) (fun h12 => ?_)
    · refine g_aload_n (i := 0) (by decide +kernel) rfl ?_
      refine g_iload_n (i := 1) (by decide +kernel) rfl ?_
      refine g_cVI (st := _) (c_Nc_give hn) k_Nc_give l_Nc_208 (by decide +kernel) (by omega) rfl rfl rfl rfl (Nat.le_of_ble_eq_true rfl) (by decide) ⟨by decide, by decide⟩ ?_
      rintro a9 σ9 ⟨ea9, hσ9⟩
      obtain rfl := ea9.symm
      subst hσ9
      refine g_retI (by decide +kernel) rfl (Or.inl rfl) ⟨by decide, by decide⟩ ?_
      exact zRes.ok (hL.q hR) rfl (by rw [e1, show t = (σ 21 5).toNat by omega])
    · refine g_iload_n (i := 2) (by decide +kernel) rfl ?_
      refine g_sipush (a := 1999) (by decide +kernel) (by decide) ?_
      refine g_icmp_gt (off := 20) (tgt := 39) (by decide +kernel) (by decide) ⟨by omega, by omega⟩ ⟨by omega, by omega⟩ (fun h19 => ?_) (fun h19 => ?_)
      · exfalso; omega
      · refine g_aload_n (i := 0) (by decide +kernel) rfl ?_
        refine g_iload_n (i := 2) (by decide +kernel) rfl ?_
        refine g_cVI (st := _) (c_Nc_leavesPlaying (t := (t : Int)) hn hL.1 (by rw [hL.2 93 (by decide)]; exact hR) ⟨by omega, by omega⟩) k_Nc_leavesPlaying l_Nc_338 (by decide +kernel) (by omega) rfl rfl rfl rfl (Nat.le_of_ble_eq_true rfl) (by decide) ⟨by decide, by decide⟩ ?_
        rintro a τ1 ⟨hL1, ea⟩
        have hL1 : zLo σ τ1 := ⟨hL1.1, fun a ha => (hL1.2 a ha).trans (hL.2 a ha)⟩
        have ea : a = (zbits (zlf (zSv σ 1) (t : Int)) (σ 1 0).toNat : Int) := by rw [ea, hL.lf ho, hL.2 1 (by decide)]
        subst ea
        have zb := zb31 (p := zlf (zSv σ 1) (t : Int)) (n := (σ 1 0).toNat) (by omega)
        refine g_if_ne (off := 6) (tgt := 33) (by decide +kernel) (by decide) ⟨by omega, by omega⟩ (fun h27 => ?_) (fun h27 => ?_)
        · have hz : ¬ zcnt (zlf (zSv σ 1) (t : Int)) (σ 1 0).toNat = 0 := fun q => h27 (by have := zbits_0.mpr (zcnt_0.mp q); omega)
          have e1 : x1 = (zcnt (fun s => decide (zcnt (zlf (zSv σ 1) (s : Int)) (σ 1 0).toNat = 0)) (t + 1) : Int) := by rw [zcnt_f (decide_eq_false hz), e1]
          refine g_iinc (i := 2) (b := 1) (L' := [(0, _), (1, _), (2, _)]) (by decide +kernel) rfl rfl rfl ?_
          refine g_goto (off := -32) (tgt := 4) (by decide +kernel) (by decide) ?_
          exact ih (t + 1) _ _ _ (by push_cast; rfl) e1 hL1 (by omega) (by omega)
        · have hz : zcnt (zlf (zSv σ 1) (t : Int)) (σ 1 0).toNat = 0 := zcnt_0.mpr (zbits_0.mp (by omega))
          have e1 : x1 + 1 = (zcnt (fun s => decide (zcnt (zlf (zSv σ 1) (s : Int)) (σ 1 0).toNat = 0)) (t + 1) : Int) := by rw [zcnt_t (decide_eq_true hz), e1]; push_cast; rfl
          refine g_iinc (i := 1) (b := 1) (L' := [(0, _), (1, _), (2, _)]) (by decide +kernel) rfl rfl rfl ?_
          refine g_iinc (i := 2) (b := 1) (L' := [(0, _), (1, _), (2, _)]) (by decide +kernel) rfl rfl rfl ?_
          refine g_goto (off := -32) (tgt := 4) (by decide +kernel) (by decide) ?_
          exact ih (t + 1) _ _ _ (by push_cast; rfl) e1 hL1 (by omega) (by omega)
theorem c_Nc_gaps {G : zG} {n : Nat} {σ : zSt} (hn : 189 ≤ n) (ho : zOn σ) (hR : zRs (σ 93)) (hl : 0 ≤ σ 21 5 ∧ σ 21 5 ≤ 1999) : Gm G y_Nc_gaps m_Nc_gaps 6 0 0 [vr G 0] n SH σ (zI n SH (fun a σ' => zRes σ σ' a 0 (zcnt (fun s => decide (zcnt (zlf (zSv σ 1) (s : Int)) (σ 1 0).toNat = 0)) (σ 21 5).toNat : Int))) := by
  refine g_enter (L := [(0, _)]) (by decide) rfl rfl rfl (Nat.le_of_ble_eq_true rfl) (fun X => ?_)
  refine g_iconst (a := 0) (by decide +kernel) ?_
  refine g_istore_n (i := 1) (L' := [(0, _), (1, _)]) (by decide +kernel) rfl rfl ?_
  refine g_iconst (a := 0) (by decide +kernel) ?_
  refine g_istore_n (i := 2) (L' := [(0, _), (1, _), (2, _)]) (by decide +kernel) rfl rfl ?_
  exact w_Nc_gaps hn ho hR hl ((σ 21 5).toNat + 1) 0 _ _ σ rfl rfl (zLo.rf ho) (by omega) (by omega)
theorem zany_s (p : Nat → Bool) (n : Nat) : zany p (n + 1) = (zany p n || p n) := rfl
theorem w_Nc_hidden {G : zG} {X : zX} {n : Nat} {σ : zSt} (hn : 189 ≤ n) (ho : zOn σ) (hR : zRs (σ 93)) {N : Nat} (eN : σ 1 0 = (N : Int)) : ∀ (m : Nat) (t : Nat) (sn : Nat → Bool) (x1 x2 x3 : Int) (τ : zSt), x3 = (t : Int) → x1 = (zbits (fun j => zany (fun s => decide (zv (zSv σ 1) (s : Int) 1 j = 2)) t) N : Int) → x2 = (zbits sn N : Int) → (∀ j, j < N → σ 2 j = 0 → sn j = zany (fun s => decide (0 < zv (zSv σ 1) (s : Int) 7 j)) t) → zLo σ τ → t ≤ 2000 → 2000 < t + m → Go G X m_Nc_hidden (5, 0, 0, 0, 0) n SH τ 6 [(0, vr G 0), (1, vi x1), (2, vi x2), (3, vi x3)] [] (zI n SH (fun a σ' => zRes σ σ' a 0 (zbits (fun j => (fun j => zany (fun s => decide (zv (zSv σ 1) (s : Int) 1 j = 2)) 2000) j && !(zany (fun s => decide (0 < zv (zSv σ 1) (s : Int) 7 j)) 2000) && decide (σ 2 j = 0)) (σ 1 0).toNat : Int))) := by
  intro m
  induction m with
  | zero => intro t sn x1 x2 x3 τ e3 e1 e2 hs hL ht hm; exact absurd hm (by omega)
  | succ m ih =>
    intro t sn x1 x2 x3 τ e3 e1 e2 hs hL ht hm
    have hc := ho.1.1
    have N1 : (σ 1 0).toNat = N := by omega
    subst e3
    subst e1
    subst e2
    refine g_iload_n (i := 3) (by decide +kernel) rfl ?_
    refine g_sipush (a := 1999) (by decide +kernel) (by decide) ?_
    refine g_icmp_gt (off := 50) (tgt := 60) (by decide +kernel) (by decide) ⟨by omega, by omega⟩ ⟨by omega, by omega⟩ (fun h10 => ?_) (fun h10 => ?_)
    · refine g_aload_n (i := 0) (by decide +kernel) rfl ?_
      refine g_iload_n (i := 1) (by decide +kernel) rfl ?_
      refine g_iload_n (i := 2) (by decide +kernel) rfl ?_
      refine g_iconst (a := -1) (by decide +kernel) ?_
      refine g_ixorm (by decide +kernel) (zb31 (by omega)) ?_
      refine g_iandu (by decide +kernel) (zb31 (by omega)) (Nat.xor_lt_two_pow (n := 32) (Nat.lt_of_lt_of_le (zb31 (by omega)) (by decide)) (by decide)) ?_
      refine g_aload_n (i := 0) (by decide +kernel) rfl ?_
      refine g_getr f_Nc_10 (by decide +kernel) (by omega) rfl rfl ?_
      refine g_cVI (st := _) (c_Sh_bitsOfLeaves (b := 1) hn sh_1 hL.1.1) k_Sh_bitsOfLeaves l_Nc_295 (by decide +kernel) (by omega) rfl rfl rfl rfl (Nat.le_of_ble_eq_true rfl) (by decide) ⟨by decide, by decide⟩ ?_
      rintro a σ9 ⟨ea, hσ⟩
      obtain rfl := hσ.symm
      have ea : a = (zbits (fun j => decide (σ 2 j = 0)) N : Int) := by
        rw [ea, show (1 + 1 : Nat) = 2 from rfl, hL.2 2 (by decide), hL.2 1 (by decide), N1]
      subst ea
      refine g_iand (by decide +kernel) (Nat.lt_of_le_of_lt Nat.and_le_left (zb31 (by omega))) (zb31 (by omega)) ?_
      refine g_cVI (st := _) (c_Nc_give hn) k_Nc_give l_Nc_208 (by decide +kernel) (by omega) rfl rfl rfl rfl (Nat.le_of_ble_eq_true rfl) (by decide) ⟨by decide, by decide⟩ ?_
      rintro a9 σ9 ⟨ea9, hσ9⟩
      obtain rfl := ea9.symm
      subst hσ9
      refine g_retI (by decide +kernel) rfl (Or.inl rfl) ⟨by decide, by decide⟩ ?_
      have e20 : t = 2000 := by omega
      rw [e20] at hs
      refine zRes.ok (hL.q hR) rfl ?_
      rw [zbits_not2 (by omega), N1, e20]
      refine congrArg (fun x : Nat => (x : Int)) (zbits_congr (fun j hj => ?_))
      by_cases hl : σ 2 j = 0
      · rw [hs j hj hl]
      · rw [decide_eq_false hl, Bool.and_false, Bool.and_false]
    · refine g_aload_n (i := 0) (by decide +kernel) rfl ?_
      refine g_getr f_Nc_34 (by decide +kernel) (by omega) rfl rfl ?_
      refine g_iload_n (i := 3) (by decide +kernel) rfl ?_
      refine g_cVO (st := _) (c_Sg_at (t := (t : Int)) hn hL.1 ⟨by omega, by omega⟩) k_Sg_at l_Nc_255 (by decide +kernel) (by omega) rfl rfl rfl rfl (Nat.le_of_ble_eq_true rfl) (by decide) ⟨by decide, by decide⟩ ?_
      rintro q τ1 ⟨eq, hA⟩
      subst eq
      obtain ⟨hA, hL1⟩ := hL.at ho hA
      refine g_astore (i := 4) (L' := [(0, _), (1, _), (2, _), (3, _), (4, _)]) (by decide +kernel) rfl rfl ?_
      refine g_iload_n (i := 1) (by decide +kernel) rfl ?_
      refine g_aload (i := 4) (by decide +kernel) rfl ?_
      refine g_iconst (a := 2) (by decide +kernel) ?_
      refine g_aload_n (i := 0) (by decide +kernel) rfl ?_
      refine g_getr f_Nc_10 (by decide +kernel) (by omega) rfl rfl ?_
      refine g_geti f_Nc_111 (by decide +kernel) (by omega) rfl rfl ?_
      have eT : τ1 1 0 = (N : Int) := by rw [hA.1 1 (by decide)]; exact eN
      rw [eT]
      refine g_cVI (st := _) (c_Mo_bitsOf (b := 34) (N := N) hn mo_34 (fun k hk => (hL1.1.mr.2 k hk).1) (by omega) ⟨by decide, by decide⟩) k_Mo_bitsOf l_Nc_273 (by decide +kernel) (by omega) rfl rfl rfl rfl (Nat.le_of_ble_eq_true rfl) (by decide) ⟨by decide, by decide⟩ ?_
      rintro a σ9 ⟨ea, hσ⟩
      obtain rfl := hσ.symm
      subst ea
      refine g_ior (by decide +kernel) (zb31 (by omega)) (zb31 (by omega)) ?_
      refine g_istore_n (i := 1) (L' := [(0, _), (1, _), (2, _), (3, _), (4, _)]) (by decide +kernel) rfl rfl ?_
      refine g_iload_n (i := 2) (by decide +kernel) rfl ?_
      refine g_aload (i := 4) (by decide +kernel) rfl ?_
      refine g_aload_n (i := 0) (by decide +kernel) rfl ?_
      refine g_getr f_Nc_10 (by decide +kernel) (by omega) rfl rfl ?_
      refine g_geti f_Nc_111 (by decide +kernel) (by omega) rfl rfl ?_
      rw [eT]
      refine g_cVI (st := _) (c_Mo_bitsOfSeen (b := 34) (N := N) hn mo_34 (fun k hk => by have := (hL1.1.mr.2 k hk).2.2.2.2.2.2; exact ⟨by omega, by omega⟩) (by omega)) k_Mo_bitsOfSeen l_Nc_292 (by decide +kernel) (by omega) rfl rfl rfl rfl (Nat.le_of_ble_eq_true rfl) (by decide) ⟨by decide, by decide⟩ ?_
      rintro a σ9 ⟨ea, hσ⟩
      obtain rfl := hσ.symm
      subst ea
      refine g_ior (by decide +kernel) (zb31 (by omega)) (zb31 (by omega)) ?_
      refine g_istore_n (i := 2) (L' := [(0, _), (1, _), (2, _), (3, _), (4, _)]) (by decide +kernel) rfl rfl ?_
      refine g_iinc (i := 3) (b := 1) (L' := [(0, _), (1, _), (2, _), (3, _), (4, _)]) (by decide +kernel) rfl rfl rfl ?_
      refine g_goto (off := -51) (tgt := 6) (by decide +kernel) (by decide) ?_
      refine g_less [0, 1, 2, 3] rfl (ih (t + 1) (fun j => sn j || decide (0 < τ1 41 j)) _ _ _ _ (by push_cast; rfl) ?_ ?_ (fun j hj hl => ?_) hL1 (by omega) (by omega))
      · rw [zbits_or2]
        congr 1
        refine zbits_congr (fun j hj => ?_)
        rw [zany_s, show τ1 (34 + 1) j = zv (zSv σ 1) (t : Int) 1 j from hA.2.2.1 j (by omega) 1 (by decide) (by decide)]
      · rw [zbits_or2]
      · rw [zany_s, ← hs j hj hl, show τ1 41 j = zv (zSv σ 1) (t : Int) 7 j from hA.2.2.2.1 j (by omega) hl]
theorem c_Nc_hidden {G : zG} {n : Nat} {σ : zSt} (hn : 189 ≤ n) (ho : zOn σ) (hR : zRs (σ 93)) : Gm G y_Nc_hidden m_Nc_hidden 5 0 0 [vr G 0] n SH σ (zI n SH (fun a σ' => zRes σ σ' a 0 (zbits (fun j => (fun j => zany (fun s => decide (zv (zSv σ 1) (s : Int) 1 j = 2)) 2000) j && !(zany (fun s => decide (0 < zv (zSv σ 1) (s : Int) 7 j)) 2000) && decide (σ 2 j = 0)) (σ 1 0).toNat : Int))) := by
  refine g_enter (L := [(0, _)]) (by decide) rfl rfl rfl (Nat.le_of_ble_eq_true rfl) (fun X => ?_)
  have hc := ho.1.1
  obtain ⟨N, eN⟩ := Int.eq_ofNat_of_zero_le hc.1
  refine g_iconst (a := 0) (by decide +kernel) ?_
  refine g_istore_n (i := 1) (L' := [(0, _), (1, _)]) (by decide +kernel) rfl rfl ?_
  refine g_iconst (a := 0) (by decide +kernel) ?_
  refine g_istore_n (i := 2) (L' := [(0, _), (1, _), (2, _)]) (by decide +kernel) rfl rfl ?_
  refine g_iconst (a := 0) (by decide +kernel) ?_
  refine g_istore_n (i := 3) (L' := [(0, _), (1, _), (2, _), (3, _)]) (by decide +kernel) rfl rfl ?_
  refine w_Nc_hidden hn ho hR eN 2001 0 (fun _ => false) _ _ _ σ rfl ?_ ?_ (fun _ _ _ => rfl) (zLo.rf ho) (by omega) (by omega)
  · exact congrArg (fun x : Nat => (x : Int)) (zbits_0.mpr (fun j hj => rfl)).symm
  · exact congrArg (fun x : Nat => (x : Int)) (zbits_0.mpr (fun j hj => rfl)).symm
