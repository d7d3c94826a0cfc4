theorem ac_l : Cond.methodLink "NestedClips$Show" 43 arraycopyName ∈ zT := zk_4 23 rfl rfl
theorem ac_n : Cond.native arraycopyName ∈ zT := zk_4 25 rfl rfl
theorem ac_s : Cond.static arraycopyName ∈ zT := zk_4 24 rfl rfl
theorem ac_i : Cond.initialized "java/lang/System" ∈ zT := zk_1 17 rfl rfl
theorem ma_i : Cond.initialized "java/lang/Math" ∈ zT := zk_1 11 rfl rfl
theorem ma_max_s : Cond.static Lib.Math.max.name ∈ zT := zk_2 164 rfl rfl
theorem ma_max_c : Cond.code Lib.Math.max.name Lib.Math.max.code 2 (some .int) ∈ zT := zk_2 165 rfl rfl
theorem ma_max_La_67 : Cond.methodLink "NestedClips$Layout" 67 Lib.Math.max.name ∈ zT := zk_2 163 rfl rfl
theorem ma_max_Sg_71 : Cond.methodLink "NestedClips$Stage" 71 Lib.Math.max.name ∈ zT := zk_2 225 rfl rfl
theorem ma_min_s : Cond.static Lib.Math.min.name ∈ zT := zk_3 184 rfl rfl
theorem ma_min_c : Cond.code Lib.Math.min.name Lib.Math.min.code 2 (some .int) ∈ zT := zk_3 185 rfl rfl
theorem ma_min_Rd_128 : Cond.methodLink "NestedClips$Reader" 128 Lib.Math.min.name ∈ zT := zk_3 183 rfl rfl
theorem ma_min_Pa_29 : Cond.methodLink "NestedClips$Past" 29 Lib.Math.min.name ∈ zT := zk_4 26 rfl rfl
theorem ma_min_Sg_77 : Cond.methodLink "NestedClips$Stage" 77 Lib.Math.min.name ∈ zT := zk_4 155 rfl rfl
theorem ma_minL_s : Cond.static Lib.MathLoose.min_long.x ∈ zT := zk_2 219 rfl rfl
theorem ma_minL_c : Cond.code Lib.MathLoose.min_long.x Lib.MathLoose.min_long.code 4 (some .long) ∈ zT := zk_2 220 rfl rfl
theorem ma_minL_Sg_162 : Cond.methodLink "NestedClips$Stage" 162 Lib.MathLoose.min_long.x ∈ zT := zk_2 218 rfl rfl
theorem c_In_265 : Cond.constant "java/lang/Integer" 265 (1431655765 : Int32) ∈ zT := zk_4 73 rfl rfl
theorem c_In_266 : Cond.constant "java/lang/Integer" 266 (858993459 : Int32) ∈ zT := zk_4 74 rfl rfl
theorem c_In_267 : Cond.constant "java/lang/Integer" 267 (252645135 : Int32) ∈ zT := zk_4 75 rfl rfl
/-- m numbers of row src from sp on come to row dst from dp on -/
def zcp (σ : zSt) (src sp dst dp m : Nat) : zSt := fun a j => if a = dst ∧ dp ≤ j ∧ j < dp + m then σ src (sp + (j - dp)) else σ a j
theorem zcp_other {σ : zSt} {src sp dst dp m a : Nat} (h : a ≠ dst) : zcp σ src sp dst dp m a = σ a := by
  funext j
  exact if_neg (fun q => h q.1)
theorem zcp_in {σ : zSt} {src sp dst dp m j : Nat} (h : dp ≤ j) (h2 : j < dp + m) : zcp σ src sp dst dp m dst j = σ src (sp + (j - dp)) := if_pos ⟨rfl, h, h2⟩
theorem zcp_out {σ : zSt} {src sp dst dp m j : Nat} (h : j < dp ∨ dp + m ≤ j) : zcp σ src sp dst dp m dst j = σ dst j := if_neg (fun q => by omega)
theorem zmax {a b : Int} (ha : zr a) (hb : zr b) : (if Int32.ofInt a < Int32.ofInt b then Int32.ofInt b else Int32.ofInt a) = Int32.ofInt (max a b) := by
  simp only [zi_lt ha hb]
  split
  · rw [show max a b = b by omega]
  · rw [show max a b = a by omega]
theorem zmin {a b : Int} (ha : zr a) (hb : zr b) : (if Int32.ofInt b < Int32.ofInt a then Int32.ofInt b else Int32.ofInt a) = Int32.ofInt (min a b) := by
  simp only [zi_lt hb ha]
  split
  · rw [show min a b = b by omega]
  · rw [show min a b = a by omega]
theorem zminL {a b : Int} (ha : zrl a) (hb : zrl b) : (if Int64.ofInt b < Int64.ofInt a then Int64.ofInt b else Int64.ofInt a) = Int64.ofInt (min a b) := by
  simp only [zl_lt hb ha]
  split
  · rw [show min a b = b by omega]
  · rw [show min a b = a by omega]
section GO
variable {G : zG} {X : zX} {M : zM} {κ : zK} {n : Nat} {sh : Nat → zSh} {σ : zSt} {pc : Nat} {L L' : List (Nat × Value)} {st : List Value} {post : zPost}
theorem g_copy {x k0 k1 m0 m1 sp dp c : Nat} {a0 a1 a2 : Int} {g0 g1 : Nat → Option Nat} (hl : Cond.methodLink M.2.1 x arraycopyName ∈ zT) (hd : decode M.1 pc = .ok (.invokestatic x, 3)) (hk0 : k0 < n) (hk1 : k1 < n) (hs0 : sh k0 = .inr (0, m0, g0)) (hs1 : sh k1 = .inr (0, m1, g1)) (e0 : a0 = (sp : Int)) (e1 : a1 = (dp : Int)) (e2 : a2 = (c : Int)) (b0 : sp + c ≤ m0) (b1 : dp + c ≤ m1) (hm : m0 < 2147483648 ∧ m1 < 2147483648) (hw : (st.map fun v => v.category).sum ≤ 8) (hR : 1 ≤ κ.1) (kk : Go G X M κ n sh (zcp σ k0 sp k1 dp c) (pc + 3) L st post) : Go G X M κ n sh σ pc L (vi a2 :: vi a1 :: vr G k1 :: vi a0 :: vr G k0 :: st) post := fun C H locs ls h1 h2 h3 h4 => by
  have hts := C.2.2.2.2.1
  have nn : ∀ {a : Int} {q : Nat}, a = (q : Int) → q < 2147483648 → ¬ Int32.ofInt a < 0 := fun {a q} e h => by
    rw [← zi_z, zi_lt ⟨by omega, by omega⟩ zr0]; omega
  have hroom : (st.map fun v => v.category).sum + (nativeFrameWords "java/lang/System" "arraycopy" 5 + 11) ≤ (zR κ.1 κ.2.2.2.1 κ.2.2.2.2).locals := by
    have q : nativeFrameWords "java/lang/System" "arraycopy" 5 = 7 := by decide
    show _ ≤ 64 * κ.1
    omega
  refine va_copyi C.1 C.2.1 (by rw [C.2.2.1]; exact h4.1.symm) C.2.2.2.1 (hts _ hl) (hts _ ac_n) (hts _ ac_s) (hts _ ac_i) C.2.2.2.2.2.2.2.2.1 h2 (zW_D G n sh σ) h3 k0 k1 0 0 (ty := .int) (f := fun i => Int32.ofInt (σ k0 i)) (g := fun i => Int32.ofInt (σ k1 i)) (by rw [zW_get hk0, hs0]; rfl) (by rw [zW_get hk1, hs1]; rfl) rfl rfl rfl (nn e0 (by omega)) (nn e1 (by omega)) (nn e2 (by omega)) (by rw [zi_cl e0 (by omega), zi_cl e2 (by omega)]; exact b0) (by rw [zi_cl e1 (by omega), zi_cl e2 (by omega)]; exact b1) (fun _ _ => rfl) hR hroom hd (fun H1 locs1 hP _ hS1 => ?_)
  rw [zi_cl e0 (by omega), zi_cl e1 (by omega), zi_cl e2 (by omega)] at hP
  have e : (zW G n sh σ).set k1 (G.2.1 + k1, .inl (G.2.2.2.2.1 0, m1, .inl (va_cpy (fun i => Int32.ofInt (σ k0 i)) (fun i => Int32.ofInt (σ k1 i)) sp dp c))) = zW G n sh (zcp σ k0 sp k1 dp c) := by
    refine zW_set hk1 ?_ (fun _ _ => rfl) (fun i hi => zcp_other hi)
    rw [hs1]
    have e3 : va_cpy (fun i => Int32.ofInt (σ k0 i)) (fun i => Int32.ofInt (σ k1 i)) sp dp c = fun i => Int32.ofInt (zcp σ k0 sp k1 dp c k1 i) := by
      funext i
      unfold va_cpy zcp
      by_cases hi : dp ≤ i ∧ i < dp + c
      · rw [if_pos hi, if_pos ⟨rfl, hi⟩]
      · rw [if_neg hi, if_neg (fun q => hi q.2)]
    rw [e3]; rfl
  rw [e] at hP
  exact kk C H1 locs1 ls h1 hP hS1 h4
theorem g_max {x : Nat} {a b : Int} (hl : Cond.methodLink M.2.1 x Lib.Math.max.name ∈ zT) (hd : decode M.1 pc = .ok (.invokestatic x, 3)) (ha : zr a) (hb : zr b) (hw : (st.map fun v => v.category).sum ≤ 8) (hR : 1 ≤ κ.1) (hκ : κ.2.1 ≤ κ.2.2.2.1 ∧ κ.2.2.1 ≤ κ.2.2.2.2) (kk : Go G X M κ n sh σ (pc + 3) L (vi (max a b) :: st) post) : Go G X M κ n sh σ pc L (vi b :: vi a :: st) post := fun C H locs ls h1 h2 h3 h4 => by
  have hts := C.2.2.2.2.1
  refine va_mmax C.1 C.2.1 (by rw [C.2.2.1]; exact h4.1.symm) C.2.2.2.1 (hts _ hl) (hts _ ma_max_s) (hts _ ma_i) (hts _ ma_max_c) hR (by show _ ≤ 64 * κ.1; omega) hκ.1 hκ.2 hd ?_
  rw [zmax ha hb]
  exact kk C H locs ls h1 h2 h3 h4
theorem g_min {x : Nat} {a b : Int} (hl : Cond.methodLink M.2.1 x Lib.Math.min.name ∈ zT) (hd : decode M.1 pc = .ok (.invokestatic x, 3)) (ha : zr a) (hb : zr b) (hw : (st.map fun v => v.category).sum ≤ 8) (hR : 1 ≤ κ.1) (hκ : κ.2.1 ≤ κ.2.2.2.1 ∧ κ.2.2.1 ≤ κ.2.2.2.2) (kk : Go G X M κ n sh σ (pc + 3) L (vi (min a b) :: st) post) : Go G X M κ n sh σ pc L (vi b :: vi a :: st) post := fun C H locs ls h1 h2 h3 h4 => by
  have hts := C.2.2.2.2.1
  refine va_mmin C.1 C.2.1 (by rw [C.2.2.1]; exact h4.1.symm) C.2.2.2.1 (hts _ hl) (hts _ ma_min_s) (hts _ ma_i) (hts _ ma_min_c) hR (by show _ ≤ 64 * κ.1; omega) hκ.1 hκ.2 hd ?_
  rw [zmin ha hb]
  exact kk C H locs ls h1 h2 h3 h4
theorem g_minL {x : Nat} {a b : Int} (hl : Cond.methodLink M.2.1 x Lib.MathLoose.min_long.x ∈ zT) (hd : decode M.1 pc = .ok (.invokestatic x, 3)) (ha : zrl a) (hb : zrl b) (hw : (st.map fun v => v.category).sum ≤ 8) (hR : 1 ≤ κ.1) (hκ : κ.2.1 ≤ κ.2.2.2.1 ∧ κ.2.2.1 ≤ κ.2.2.2.2) (kk : Go G X M κ n sh σ (pc + 3) L (vl (min a b) :: st) post) : Go G X M κ n sh σ pc L (vl b :: vl a :: st) post := fun C H locs ls h1 h2 h3 h4 => by
  have hts := C.2.2.2.2.1
  refine va_mmin_long C.1 C.2.1 (by rw [C.2.2.1]; exact h4.1.symm) C.2.2.2.1 (hts _ hl) (hts _ ma_minL_s) (hts _ ma_i) (hts _ ma_minL_c) hR (by show _ ≤ 64 * κ.1; omega) hκ.1 hκ.2 hd ?_
  rw [zminL ha hb]
  exact kk C H locs ls h1 h2 h3 h4
theorem g_ldcw {x : Nat} {a : Int} {w : Int32} (hd : decode M.1 pc = .ok (.ldc_w x, 3)) (hw : Cond.constant M.2.1 x w ∈ zT) (ha : w = Int32.ofInt a) (k : Go G X M κ n sh σ (pc + 3) L (vi a :: st) post) : Go G X M κ n sh σ pc L st post := fun C H locs ls h1 h2 h3 h4 => by
  subst ha
  exact lv_ldcw C.1 C.2.1 C.2.2.2.1 (C.2.2.2.2.1 _ hw) hd (k C H locs ls h1 h2 h3 h4)
theorem g_iushr {x i : Nat} (hd : decode M.1 pc = .ok (.iushr, 1)) (hx : x < 2147483648) (hi : i < 31) (k : Go G X M κ n sh σ (pc + 1) L (vi ((x / 2 ^ i : Nat) : Int) :: st) post) : Go G X M κ n sh σ pc L (vi (i : Int) :: vi (x : Int) :: st) post := fun C H locs ls h1 h2 h3 h4 => by
  have h9 : ∀ i : Nat, i < 31 → (((Int32.ofInt (i : Int)).toUInt32 &&& Int32.toUInt32 31).toBitVec % 32).toNat = i := by decide
  refine lv_iushr C.1 C.2.1 hd (v := Int32.ofInt ((x / 2 ^ i : Nat) : Int)) ?_ (k C H locs ls h1 h2 h3 h4)
  rw [zi_nat x, zi_nat (x / 2 ^ i)]
  exact pk_ushrN (by omega) _ i (h9 i hi)
end GO
/-- how many of the twelve lowest bits are set -/
def zpop (x : Nat) : Nat := zcnt (fun k => x.testBit k) 12
def zbc1 (x : Nat) : Nat := x - (x / 2 ^ 1 &&& 1431655765)
def zbc2 (x : Nat) : Nat := (zbc1 x &&& 858993459) + (zbc1 x / 2 ^ 2 &&& 858993459)
def zbc3 (x : Nat) : Nat := (zbc2 x + zbc2 x / 2 ^ 4) &&& 252645135
def zbc4 (x : Nat) : Nat := zbc3 x + zbc3 x / 2 ^ 8
def zbc5 (x : Nat) : Nat := zbc4 x + zbc4 x / 2 ^ 16
def zbcP (x : Nat) : Prop := ((x / 2 ^ 1 &&& 1431655765) ≤ x ∧ zbc1 x < 65536 ∧ zbc2 x < 65536 ∧ zbc3 x < 65536 ∧ zbc4 x < 65536 ∧ zbc5 x < 65536) ∧ (zbc5 x &&& 63) = zpop x
theorem zbc_dec : (List.range 64).all (fun a => (List.range 64).all (fun b => decide (((64 * a + b) / 2 ^ 1 &&& 1431655765) ≤ 64 * a + b) && decide (zbc1 (64 * a + b) < 65536) && decide (zbc2 (64 * a + b) < 65536) && decide (zbc3 (64 * a + b) < 65536) && decide (zbc4 (64 * a + b) < 65536) && decide (zbc5 (64 * a + b) < 65536) && decide ((zbc5 (64 * a + b) &&& 63) = zpop (64 * a + b)))) = true := by decide +kernel
theorem zbc_all (x : Nat) (hx : x < 4096) : zbcP x := by
  have h1 := List.all_eq_true.mp zbc_dec (x / 64) (List.mem_range.mpr (by omega))
  have h2 := List.all_eq_true.mp h1 (x % 64) (List.mem_range.mpr (by omega))
  rw [show 64 * (x / 64) + x % 64 = x by omega] at h2
  simp only [Bool.and_eq_true, decide_eq_true_eq] at h2
  obtain ⟨⟨⟨⟨⟨⟨a, b⟩, c⟩, d⟩, e⟩, f⟩, g⟩ := h2
  exact ⟨⟨a, b, c, d, e, f⟩, g⟩
theorem c_In_bitCount {G : zG} {n : Nat} {sh : Nat → zSh} {σ : zSt} {x : Nat} (hx : x < 4096) : Gm G y_In_bitCount m_In_bitCount 0 0 0 [vi x] n sh σ (zI n sh (fun a σ' => a = (zpop x : Int) ∧ σ' = σ)) := by
  obtain ⟨⟨q0, q1, q2, q3, q4, q5⟩, q6⟩ := zbc_all x hx
  refine g_enter (L := [(0, _)]) (by decide) rfl rfl rfl (Nat.le_of_ble_eq_true rfl) (fun X => ?_)
  refine g_iload_n (i := 0) (by decide +kernel) rfl ?_
  refine g_iload_n (i := 0) (by decide +kernel) rfl ?_
  refine g_iconst (a := 1) (by decide +kernel) ?_
  refine g_iushr (i := 1) (by decide +kernel) (by omega) (by omega) ?_
  refine g_ldcw (a := 1431655765) (by decide +kernel) c_In_265 (by decide) ?_
  refine g_iand (y := 1431655765) (by decide +kernel) (by omega) (by omega) ?_
  refine g_isub (by decide +kernel) ?_
  refine g_eq (st' := [vi (zbc1 x : Nat)]) ?_ rfl rfl (by rw [show (x : Int) - ((x / 2 ^ 1 &&& 1431655765 : Nat) : Int) = ((zbc1 x : Nat) : Int) by unfold zbc1; omega])
  refine g_istore_n (i := 0) (L' := [(0, _)]) (by decide +kernel) rfl rfl ?_
  refine g_iload_n (i := 0) (by decide +kernel) rfl ?_
  refine g_ldcw (a := 858993459) (by decide +kernel) c_In_266 (by decide) ?_
  refine g_iand (y := 858993459) (by decide +kernel) (by omega) (by omega) ?_
  refine g_iload_n (i := 0) (by decide +kernel) rfl ?_
  refine g_iconst (a := 2) (by decide +kernel) ?_
  refine g_iushr (i := 2) (by decide +kernel) (by omega) (by omega) ?_
  refine g_ldcw (a := 858993459) (by decide +kernel) c_In_266 (by decide) ?_
  refine g_iand (y := 858993459) (by decide +kernel) (by omega) (by omega) ?_
  refine g_iadd (by decide +kernel) ?_
  refine g_eq (st' := [vi (zbc2 x : Nat)]) ?_ rfl rfl (by rw [show ((zbc1 x &&& 858993459 : Nat) : Int) + ((zbc1 x / 2 ^ 2 &&& 858993459 : Nat) : Int) = ((zbc2 x : Nat) : Int) by unfold zbc2; omega])
  refine g_istore_n (i := 0) (L' := [(0, _)]) (by decide +kernel) rfl rfl ?_
  refine g_iload_n (i := 0) (by decide +kernel) rfl ?_
  refine g_iload_n (i := 0) (by decide +kernel) rfl ?_
  refine g_iconst (a := 4) (by decide +kernel) ?_
  refine g_iushr (i := 4) (by decide +kernel) (by omega) (by omega) ?_
  refine g_iadd (by decide +kernel) ?_
  refine g_eq (st' := [vi (zbc2 x + zbc2 x / 2 ^ 4 : Nat)]) ?_ rfl rfl (by rw [show ((zbc2 x : Nat) : Int) + ((zbc2 x / 2 ^ 4 : Nat) : Int) = ((zbc2 x + zbc2 x / 2 ^ 4 : Nat) : Int) by omega])
  refine g_ldcw (a := 252645135) (by decide +kernel) c_In_267 (by decide) ?_
  refine g_iand (x := zbc2 x + zbc2 x / 2 ^ 4) (y := 252645135) (by decide +kernel) (by omega) (by omega) ?_
  refine g_eq (st' := [vi (zbc3 x : Nat)]) ?_ rfl rfl (by rw [show ((zbc2 x + zbc2 x / 2 ^ 4 &&& 252645135 : Nat) : Int) = ((zbc3 x : Nat) : Int) by rfl])
  refine g_istore_n (i := 0) (L' := [(0, _)]) (by decide +kernel) rfl rfl ?_
  refine g_iload_n (i := 0) (by decide +kernel) rfl ?_
  refine g_iload_n (i := 0) (by decide +kernel) rfl ?_
  refine g_bipush (a := 8) (by decide +kernel) (by decide) ?_
  refine g_iushr (i := 8) (by decide +kernel) (by omega) (by omega) ?_
  refine g_iadd (by decide +kernel) ?_
  refine g_eq (st' := [vi (zbc4 x : Nat)]) ?_ rfl rfl (by rw [show ((zbc3 x : Nat) : Int) + ((zbc3 x / 2 ^ 8 : Nat) : Int) = ((zbc4 x : Nat) : Int) by unfold zbc4; omega])
  refine g_istore_n (i := 0) (L' := [(0, _)]) (by decide +kernel) rfl rfl ?_
  refine g_iload_n (i := 0) (by decide +kernel) rfl ?_
  refine g_iload_n (i := 0) (by decide +kernel) rfl ?_
  refine g_bipush (a := 16) (by decide +kernel) (by decide) ?_
  refine g_iushr (i := 16) (by decide +kernel) (by omega) (by omega) ?_
  refine g_iadd (by decide +kernel) ?_
  refine g_eq (st' := [vi (zbc5 x : Nat)]) ?_ rfl rfl (by rw [show ((zbc4 x : Nat) : Int) + ((zbc4 x / 2 ^ 16 : Nat) : Int) = ((zbc5 x : Nat) : Int) by unfold zbc5; omega])
  refine g_istore_n (i := 0) (L' := [(0, _)]) (by decide +kernel) rfl rfl ?_
  refine g_iload_n (i := 0) (by decide +kernel) rfl ?_
  refine g_bipush (a := 63) (by decide +kernel) (by decide) ?_
  refine g_iand (y := 63) (by decide +kernel) (by omega) (by omega) ?_
  refine g_retI (by decide +kernel) rfl (Or.inl rfl) ⟨by decide, by decide⟩ ?_
  exact ⟨by rw [q6], rfl⟩
