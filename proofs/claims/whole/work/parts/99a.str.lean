/-! THE STRING OF THE WORDS: its rows, String.length, String.charAt -/
abbrev vS (G : zG) : Value := .ref (G.2.2.2.2.2 4)
abbrev vB (G : zG) : Value := .ref (G.2.2.2.2.2 5)
/-- the letters of the words -/
def zlt_ (j : Nat) : Int := (zBytes.getD j 0).toInt
theorem zBytes_len : zBytes.length = 76 := by decide +kernel
theorem zltr_ : ∀ j, j < 76 → zlt_ j = 32 ∨ (97 ≤ zlt_ j ∧ zlt_ j ≤ 122) := by decide +kernel
theorem zc256 : ∀ k : Nat, k < 256 → ((nI k).toUInt32 % 65536).toInt32 = nI k ∧ (nI k).toUInt32.toUInt16.toUInt32.toInt32 = nI k := by decide +kernel
theorem zi_2c {a : Int} (h : 0 ≤ a ∧ a ≤ 255) : ((Int32.ofInt a).toUInt32 % 65536).toInt32 = Int32.ofInt a := by
  obtain ⟨k, rfl⟩ := Int.eq_ofNat_of_zero_le h.1
  rw [zi_nat]; exact (zc256 k (by omega)).1
theorem zi_narC {a : Int} (h : 0 ≤ a ∧ a ≤ 255) : narrow .char (vi a) = vi a := by
  obtain ⟨k, rfl⟩ := Int.eq_ofNat_of_zero_le h.1
  show Value.int (Int32.ofInt (k : Int)).toUInt32.toUInt16.toUInt32.toInt32 = Value.int (Int32.ofInt (k : Int))
  rw [zi_nat, (zc256 k (by omega)).2]
theorem f_St_9 : Cond.fieldLink "java/lang/String" 9 "java/lang/String" "value" "[B" ∈ zT := zk_8 123 rfl rfl
theorem f_St_15 : Cond.fieldLink "java/lang/String" 15 "java/lang/String" "coder" "B" ∈ zT := zk_8 124 rfl rfl
theorem f_St_38 : Cond.fieldLink "java/lang/String" 38 "java/lang/String" "COMPACT_STRINGS" "Z" ∈ zT := zk_3 101 rfl rfl
theorem f_St_1053 : Cond.fieldLink "java/lang/String" 1053 "jdk/internal/util/Preconditions" "SIOOBE_FORMATTER" "Ljava/util/function/BiFunction;" ∈ zT := zk_3 117 rfl rfl
section GO
variable {G : zG} {X : zX} {M : zM} {κ : zK} {n : Nat} {sh : Nat → zSh} {σ : zSt} {pc : Nat} {L L' : List (Nat × Value)} {st : List Value} {post : zPost}
theorem g_ldcS (hM : M.2.1 = "NestedClips$Reader") (hd : decode M.1 pc = .ok (.ldc 185, 2)) (k : Go G X M κ n sh σ (pc + 2) L (vS G :: st) post) : Go G X M κ n sh σ pc L st post := fun C H locs ls h1 h2 h3 h4 => va_ldcS C.1 C.2.1 (by have q := C.2.2.2.1; rw [hM] at q; exact q) C.2.2.2.2.2.2.2.2.2.1.2.1.1 hd (k C H locs ls h1 h2 h3 h4)
theorem g_sval {x : Nat} (hl : Cond.fieldLink M.2.1 x "java/lang/String" "value" "[B" ∈ zT) (hd : decode M.1 pc = .ok (.getfield x, 3)) (k : Go G X M κ n sh σ (pc + 3) L (vB G :: st) post) : Go G X M κ n sh σ pc L (vS G :: st) post := fun C H locs ls h1 h2 h3 h4 => vk_getf C.1 C.2.1 (C.2.2.2.2.2.2.2.2.2.1.2.1.2.1 0 (by decide)).2.2.1 h3 C.2.2.2.1 (C.2.2.2.2.1 _ hl) (fun _ h9 => h9) hd (k C H locs ls h1 h2 h3 h4)
theorem g_scod {x : Nat} (hl : Cond.fieldLink M.2.1 x "java/lang/String" "coder" "B" ∈ zT) (hd : decode M.1 pc = .ok (.getfield x, 3)) (k : Go G X M κ n sh σ (pc + 3) L (vi 0 :: st) post) : Go G X M κ n sh σ pc L (vS G :: st) post := fun C H locs ls h1 h2 h3 h4 => vk_getf C.1 C.2.1 (C.2.2.2.2.2.2.2.2.2.1.2.1.2.1 0 (by decide)).2.1 h3 C.2.2.2.1 (C.2.2.2.2.1 _ hl) (fun _ h9 => h9) hd (k C H locs ls h1 h2 h3 h4)
theorem g_scmp {x : Nat} (hl : Cond.fieldLink M.2.1 x "java/lang/String" "COMPACT_STRINGS" "Z" ∈ zT) (hd : decode M.1 pc = .ok (.getstatic x, 3)) (k : Go G X M κ n sh σ (pc + 3) L (vi 1 :: st) post) : Go G X M κ n sh σ pc L st post := fun C H locs ls h1 h2 h3 h4 => va_gets C.1 C.2.1 C.2.2.2.2.2.2.2.2.2.1.2.2.1.1 h3 C.2.2.2.1 (C.2.2.2.2.1 _ hl) (fun _ h9 => h9) hd (k C H locs ls h1 h2 h3 h4)
theorem g_sfmt {x : Nat} (hl : Cond.fieldLink M.2.1 x "jdk/internal/util/Preconditions" "SIOOBE_FORMATTER" "Ljava/util/function/BiFunction;" ∈ zT) (hd : decode M.1 pc = .ok (.getstatic x, 3)) (k : ∀ v : Value, (v = .null ∨ ∃ t, v = .ref t) → Go G X M κ n sh σ (pc + 3) L (v :: st) post) : Go G X M κ n sh σ pc L st post := fun C H locs ls h1 h2 h3 h4 => by
  rcases C.2.2.2.2.2.2.2.2.2.1.2.2.1.2 with q | ⟨t, q⟩
  · exact va_gets C.1 C.2.1 q h3 C.2.2.2.1 (C.2.2.2.2.1 _ hl) (fun _ h9 => h9) hd (k _ (Or.inl rfl) C H locs ls h1 h2 h3 h4)
  · exact va_gets C.1 C.2.1 q h3 C.2.2.2.1 (C.2.2.2.2.1 _ hl) (fun _ h9 => h9) hd (k _ (Or.inr ⟨t, rfl⟩) C H locs ls h1 h2 h3 h4)
theorem g_sald {j : Nat} {a : Int} (hd : decode M.1 pc = .ok (.baload, 1)) (ha : a = (j : Int)) (hj : j < 76) (k : Go G X M κ n sh σ (pc + 1) L (vi (zlt_ j) :: st) post) : Go G X M κ n sh σ pc L (vi a :: vB G :: st) post := fun C H locs ls h1 h2 h3 h4 => by
  have q := (C.2.2.2.2.2.2.2.2.2.1.2.1.2.1 0 (by decide)).2.2.2
  have e : ([zBytes.length] : List Nat).getD 0 0 = 76 := zBytes_len
  rw [e] at q
  refine va_tb C.1 C.2.1 q h3 (zi_in ha hj (by decide)) ?_ hd (k C H locs ls h1 h2 h3 h4)
  rw [zi_cl ha (by omega)]
  show Value.int (zBytes.getD j 0) = Value.int (Int32.ofInt (zBytes.getD j 0).toInt)
  rw [Int32.ofInt_toInt]
theorem g_slen (hd : decode M.1 pc = .ok (.arraylength, 1)) (k : Go G X M κ n sh σ (pc + 1) L (vi 76 :: st) post) : Go G X M κ n sh σ pc L (vB G :: st) post := fun C H locs ls h1 h2 h3 h4 => by
  have q := (C.2.2.2.2.2.2.2.2.2.1.2.1.2.1 0 (by decide)).2.2.2
  have e : ([zBytes.length] : List Nat).getD 0 0 = 76 := zBytes_len
  rw [e] at q
  exact va_tlen C.1 C.2.1 q h3 (by rfl) hd (k C H locs ls h1 h2 h3 h4)
theorem g_i2c {a : Int} (hd : decode M.1 pc = .ok (.i2c, 1)) (ha : 0 ≤ a ∧ a ≤ 255) (k : Go G X M κ n sh σ (pc + 1) L (vi a :: st) post) : Go G X M κ n sh σ pc L (vi a :: st) post := fun C H locs ls h1 h2 h3 h4 => lv_i2c C.1 C.2.1 hd (zi_2c ha) (k C H locs ls h1 h2 h3 h4)
theorem g_retN {a : Int} {P : Int → zSt → Prop} {ty : FieldType} (hd : decode M.1 pc = .ok (.ireturn, 1)) (hr : M.2.2.2.1 = some ty) (hty : narrow ty (vi a) = vi a) (hκ : κ.2.1 ≤ κ.2.2.2.1 ∧ κ.2.2.1 ≤ κ.2.2.2.2) (hp : P a σ) : Go G X M κ n sh σ pc L [vi a] (zI n sh P) := fun C H locs ls h1 h2 h3 h4 => by
  intro T hT Xs
  have hsz := z_size h1 h2 h3 C.2.2.2.2.2.2.2.2.2.2 hT Xs
  exact W.widen hκ.1 hκ.2 (W.zret (ty := ty) C.1 C.2.1 (by rw [C.2.2.2.2.2.1, hr]) hty (zQ_of (C := C) (post := zI n sh P) hsz h2 h3 ⟨⟨a, rfl, hp⟩, rfl, rfl⟩) h3.2.2 hd (hlocks := C.2.2.2.2.2.2.1)) T hT Xs
/-- a call of a method of the String -/
theorem g_cTI {y : MethodName} {M' : zM} {d na x : Nat} {As : List Value} {P : Int → zSt → Prop} {st0 : List Value} (hm : Gm G y M' d 0 0 (vS G :: As) n sh σ (zI n sh P)) (hy : zCalV y M' na) (hl : Cond.methodLink M.2.1 x y ∈ zT) (hd : decode M.1 pc = .ok (.invokevirtual x, 3)) (hc : y.cls = "java/lang/String") (hn : As.length = na) (hst : st0 = As.reverse ++ vS G :: st) (hw : (st.map fun v => v.category).sum ≤ 8) (hR : d + 1 ≤ κ.1) (hmc : κ.2.1 ≤ κ.2.2.2.1 ∧ κ.2.2.1 ≤ κ.2.2.2.2)
    (kk : ∀ (a : Int) (σ' : zSt), P a σ' → Go G X M κ n sh σ' (pc + 3) L (vi a :: st) post) : Go G X M κ n sh σ pc L st0 post := by
  refine g_run (st := st) (a := (vS G :: As).toArray) (mc := 0) (ms := 0) (post' := zI n sh P) (fun C H locs ls h1 h2 h3 h4 => ?_) ?_
  · intro T hT Xs
    have hsz := z_size h1 h2 h3 C.2.2.2.2.2.2.2.2.2.2 hT Xs
    obtain ⟨⟨hcode, hini, hdd, hml⟩, hinst, hsel⟩ := hy
    have hts := C.2.2.2.2.1
    have cw : CallW (zR κ.1 κ.2.2.2.1 κ.2.2.2.2) X.2.2.1 X.2.2.2.2.1 M.2.1 y.cls x y M'.1 M'.2.2.1 M'.2.2.2.1 (zws y M') (zR d 0 0) 0 0 na :=
      ⟨callB_of na hts (zws_good hcode) rfl rfl rfl (hts _ hini) (hts _ hl) hdd ⟨hR, by show 8 + (M'.2.2.1 + 11) + 64 * d ≤ 64 * κ.1; omega⟩, hts _ hinst, hts _ hsel⟩
    have hrecv := vk_recv (i := 0) C.2.2.2.2.2.2.2.2.2.1.2.1.2 (by decide) h3
    rw [← hc] at hrecv
    exact va_runV ⟨C.1, C.2.1, C.2.2.1, C.2.2.2.1, hts⟩ hm cw ⟨zWd_blind G n sh σ _, hrecv, zPre C hsz h2 h3⟩ rfl hn h4.1 hst (lv_room hw) hd ⟨hmc.1, hmc.2⟩ T hT Xs
  · rintro r n' sh' σ' ⟨⟨a, rfl, hp⟩, rfl, rfl⟩
    exact ⟨rfl, kk a σ' hp⟩
theorem g_cSV {y : MethodName} {M' : zM} {d na x : Nat} {As : List Value} {P : zSt → Prop} {st0 : List Value} (hm : Gm G y M' d 0 0 As n sh σ (zV n sh P)) (hy : zCalS y M' na) (hl : Cond.methodLink M.2.1 x y ∈ zT) (hd : decode M.1 pc = .ok (.invokestatic x, 3)) (hn : As.length = na) (hst : st0 = As.reverse ++ st) (hw : (st.map fun v => v.category).sum ≤ 8) (hR : d + 1 ≤ κ.1) (hmc : κ.2.1 ≤ κ.2.2.2.1 ∧ κ.2.2.1 ≤ κ.2.2.2.2)
    (kk : ∀ (σ' : zSt), P σ' → Go G X M κ n sh σ' (pc + 3) L st post) : Go G X M κ n sh σ pc L st0 post := by
  refine g_callS hm hy hl hd hn hst hw hR hmc ?_
  rintro r n' sh' σ' ⟨⟨rfl, hp⟩, rfl, rfl⟩
  exact ⟨rfl, kk σ' hp⟩
end GO
theorem c_St_coder {G : zG} {n : Nat} {σ : zSt} : Gm G y_St_coder m_St_coder 0 0 0 [vS G] n SH σ (zI n SH (fun a σ' => a = 0 ∧ σ' = σ)) := by
  refine g_enter (L := [(0, _)]) (by decide) rfl rfl rfl (Nat.le_of_ble_eq_true rfl) (fun X => ?_)
  refine g_scmp f_St_38 (by decide +kernel) ?_
  refine g_if_eq (off := 10) (tgt := 13) (by decide +kernel) (by decide) ⟨by omega, by omega⟩ (fun h => ?_) (fun _ => ?_)
  · exact absurd h (by decide)
  refine g_aload_n (i := 0) (by decide +kernel) rfl ?_
  refine g_scod f_St_15 (by decide +kernel) ?_
  refine g_goto (off := 4) (tgt := 14) (by decide +kernel) (by decide) ?_
  exact g_retN (by decide +kernel) rfl rfl ⟨by decide, by decide⟩ ⟨rfl, rfl⟩
theorem c_St_isLatin1 {G : zG} {n : Nat} {σ : zSt} : Gm G y_St_isLatin1 m_St_isLatin1 0 0 0 [vS G] n SH σ (zI n SH (fun a σ' => a = 1 ∧ σ' = σ)) := by
  refine g_enter (L := [(0, _)]) (by decide) rfl rfl rfl (Nat.le_of_ble_eq_true rfl) (fun X => ?_)
  refine g_scmp f_St_38 (by decide +kernel) ?_
  refine g_if_eq (off := 14) (tgt := 17) (by decide +kernel) (by decide) ⟨by omega, by omega⟩ (fun h => ?_) (fun _ => ?_)
  · exact absurd h (by decide)
  refine g_aload_n (i := 0) (by decide +kernel) rfl ?_
  refine g_scod f_St_15 (by decide +kernel) ?_
  refine g_if_ne (off := 7) (tgt := 17) (by decide +kernel) (by decide) ⟨by omega, by omega⟩ (fun h => ?_) (fun _ => ?_)
  · exact absurd rfl h
  refine g_iconst (a := 1) (by decide +kernel) ?_
  refine g_goto (off := 4) (tgt := 18) (by decide +kernel) (by decide) ?_
  exact g_retN (by decide +kernel) rfl rfl ⟨by decide, by decide⟩ ⟨rfl, rfl⟩
theorem c_St_length {G : zG} {n : Nat} {σ : zSt} : Gm G y_St_length m_St_length 1 0 0 [vS G] n SH σ (zI n SH (fun a σ' => a = 76 ∧ σ' = σ)) := by
  refine g_enter (L := [(0, _)]) (by decide) rfl rfl rfl (Nat.le_of_ble_eq_true rfl) (fun X => ?_)
  refine g_aload_n (i := 0) (by decide +kernel) rfl ?_
  refine g_sval f_St_9 (by decide +kernel) ?_
  refine g_slen (by decide +kernel) ?_
  refine g_aload_n (i := 0) (by decide +kernel) rfl ?_
  refine g_cTI (st := [vi 76]) c_St_coder k_St_coder l_St_335 (by decide +kernel) rfl rfl rfl (Nat.le_of_ble_eq_true rfl) (by decide) ⟨by decide, by decide⟩ ?_
  rintro a σ1 ⟨rfl, hσ⟩
  obtain rfl := hσ.symm
  refine g_ishrI (i := 0) (by decide +kernel) ⟨by omega, by omega⟩ (by decide) ?_
  exact g_retN (by decide +kernel) rfl rfl ⟨by decide, by decide⟩ ⟨by decide, rfl⟩
theorem c_Pr_checkIndex {G : zG} {n : Nat} {σ : zSt} {v : Value} {j : Nat} (hv : v = .null ∨ ∃ t, v = .ref t) (hj : j < 76) : Gm G y_Pr_checkIndex m_Pr_checkIndex 0 0 0 [vi (j : Int), vi 76, v] n SH σ (zI n SH (fun _ σ' => σ' = σ)) := by
  rcases hv with rfl | ⟨t, rfl⟩
  all_goals
    refine g_enter (L := [(0, _), (1, _), (2, _)]) (by decide) rfl rfl rfl (Nat.le_of_ble_eq_true rfl) (fun X => ?_)
    refine g_iload_n (i := 0) (by decide +kernel) rfl ?_
    refine g_if_lt (off := 8) (tgt := 9) (by decide +kernel) (by decide) ⟨by omega, by omega⟩ (fun h => ?_) (fun _ => ?_)
    · exact absurd h (by omega)
    refine g_iload_n (i := 0) (by decide +kernel) rfl ?_
    refine g_iload_n (i := 1) (by decide +kernel) rfl ?_
    refine g_icmp_lt (off := 10) (tgt := 16) (by decide +kernel) (by decide) ⟨by omega, by omega⟩ ⟨by omega, by omega⟩ (fun _ => ?_) (fun h => ?_)
    · refine g_iload_n (i := 0) (by decide +kernel) rfl ?_
      exact g_retN (by decide +kernel) rfl rfl ⟨by decide, by decide⟩ rfl
    · exact absurd h (by omega)
theorem c_St_checkIndex {G : zG} {n : Nat} {σ : zSt} {j : Nat} (hj : j < 76) : Gm G y_St_checkIndex m_St_checkIndex 1 0 0 [vi (j : Int), vi 76] n SH σ (zV n SH (fun σ' => σ' = σ)) := by
  refine g_enter (L := [(0, _), (1, _)]) (by decide) rfl rfl rfl (Nat.le_of_ble_eq_true rfl) (fun X => ?_)
  refine g_iload_n (i := 0) (by decide +kernel) rfl ?_
  refine g_iload_n (i := 1) (by decide +kernel) rfl ?_
  refine g_sfmt f_St_1053 (by decide +kernel) (fun v hv => ?_)
  refine g_cSI (st := []) (c_Pr_checkIndex hv hj) k_Pr_checkIndex l_St_1059 (by decide +kernel) rfl rfl (Nat.le_of_ble_eq_true rfl) (by decide) ⟨by decide, by decide⟩ ?_
  intro a σ1 hσ
  obtain rfl := hσ.symm
  refine g_pop (by decide +kernel) rfl ?_
  exact g_retV (by decide +kernel) rfl ⟨by decide, by decide⟩ rfl
theorem c_L1_charAt {G : zG} {n : Nat} {σ : zSt} {j : Nat} (hj : j < 76) : Gm G y_L1_charAt m_L1_charAt 2 0 0 [vB G, vi (j : Int)] n SH σ (zI n SH (fun a σ' => a = zlt_ j ∧ σ' = σ)) := by
  have hc := zltr_ j hj
  have e : zlt_ j % 256 = zlt_ j := by omega
  refine g_enter (L := [(0, _), (1, _)]) (by decide) rfl rfl rfl (Nat.le_of_ble_eq_true rfl) (fun X => ?_)
  refine g_iload_n (i := 1) (by decide +kernel) rfl ?_
  refine g_aload_n (i := 0) (by decide +kernel) rfl ?_
  refine g_slen (by decide +kernel) ?_
  refine g_cSV (st := []) (c_St_checkIndex hj) k_St_checkIndex l_L1_9 (by decide +kernel) rfl rfl (Nat.le_of_ble_eq_true rfl) (by decide) ⟨by decide, by decide⟩ ?_
  intro σ1 hσ
  obtain rfl := hσ.symm
  refine g_aload_n (i := 0) (by decide +kernel) rfl ?_
  refine g_iload_n (i := 1) (by decide +kernel) rfl ?_
  refine g_sald (j := j) (by decide +kernel) rfl hj ?_
  refine g_sipush (a := 255) (by decide +kernel) (by decide) ?_
  refine g_and255 (by decide +kernel) ?_
  rw [e]
  refine g_i2c (by decide +kernel) ⟨by omega, by omega⟩ ?_
  exact g_retN (by decide +kernel) rfl (zi_narC ⟨by omega, by omega⟩) ⟨by decide, by decide⟩ ⟨rfl, rfl⟩
theorem c_St_charAt {G : zG} {n : Nat} {σ : zSt} {j : Nat} (hj : j < 76) : Gm G y_St_charAt m_St_charAt 3 0 0 [vS G, vi (j : Int)] n SH σ (zI n SH (fun a σ' => a = zlt_ j ∧ σ' = σ)) := by
  have hc := zltr_ j hj
  refine g_enter (L := [(0, _), (1, _)]) (by decide) rfl rfl rfl (Nat.le_of_ble_eq_true rfl) (fun X => ?_)
  refine g_aload_n (i := 0) (by decide +kernel) rfl ?_
  refine g_cTI (st := []) c_St_isLatin1 k_St_isLatin1 l_St_492 (by decide +kernel) rfl rfl rfl (Nat.le_of_ble_eq_true rfl) (by decide) ⟨by decide, by decide⟩ ?_
  rintro a σ1 ⟨rfl, hσ⟩
  obtain rfl := hσ.symm
  refine g_if_eq (off := 12) (tgt := 16) (by decide +kernel) (by decide) ⟨by omega, by omega⟩ (fun h => ?_) (fun _ => ?_)
  · exact absurd h (by decide)
  refine g_aload_n (i := 0) (by decide +kernel) rfl ?_
  refine g_sval f_St_9 (by decide +kernel) ?_
  refine g_iload_n (i := 1) (by decide +kernel) rfl ?_
  refine g_cSI (st := []) (c_L1_charAt hj) k_L1_charAt l_St_495 (by decide +kernel) rfl rfl (Nat.le_of_ble_eq_true rfl) (by decide) ⟨by decide, by decide⟩ ?_
  rintro a σ1 ⟨rfl, hσ⟩
  obtain rfl := hσ.symm
  exact g_retN (by decide +kernel) rfl (zi_narC ⟨by omega, by omega⟩) ⟨by decide, by decide⟩ ⟨rfl, rfl⟩

