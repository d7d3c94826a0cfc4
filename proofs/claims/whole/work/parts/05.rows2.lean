/-! numbers, on -/
theorem zi_nat (x : Nat) : Int32.ofInt (x : Int) = nI x := by
  unfold nI
  first | exact Int32.ofInt_eq_ofNat | exact Int32.ofInt_eq_ofNat _ | (apply Int32.toBitVec_inj.mp; simp [Int32.toBitVec_ofInt, Int32.toBitVec_ofNat'])
theorem zl_nat (x : Nat) : Int64.ofInt (x : Int) = lN x := by
  unfold lN
  first | exact Int64.ofInt_eq_ofNat | exact Int64.ofInt_eq_ofNat _ | (apply Int64.toBitVec_inj.mp; simp [Int64.toBitVec_ofInt, Int64.toBitVec_ofNat'])
theorem zi_div {a b : Int} (ha : 0 ≤ a) (ha' : a ≤ 2147483647) (hb : 0 < b) (hb' : b ≤ 2147483647) : Int32.ofInt a / Int32.ofInt b = Int32.ofInt (a / b) := by
  obtain ⟨x, rfl⟩ := Int.eq_ofNat_of_zero_le ha
  obtain ⟨y, rfl⟩ := Int.eq_ofNat_of_zero_le (Int.le_of_lt hb)
  rw [← Int.natCast_ediv, zi_nat, zi_nat, zi_nat]
  exact pk_div (by omega) (by omega) (by omega)
theorem zl_div {a b : Int} (ha : 0 ≤ a) (ha' : a ≤ 9223372036854775807) (hb : 0 < b) (hb' : b ≤ 9223372036854775807) : Int64.ofInt a / Int64.ofInt b = Int64.ofInt (a / b) := by
  obtain ⟨x, rfl⟩ := Int.eq_ofNat_of_zero_le ha
  obtain ⟨y, rfl⟩ := Int.eq_ofNat_of_zero_le (Int.le_of_lt hb)
  rw [← Int.natCast_ediv, zl_nat, zl_nat, zl_nat]
  exact pk_lDiv (by omega) (by omega) (by omega)
theorem zi_ne0 {b : Int} (hb : 0 < b) (hb' : b ≤ 2147483647) : ¬ Int32.ofInt b = 0 := by
  have h : Int32.ofInt 0 = 0 := rfl
  rw [← h, zi_eq ⟨by omega, by omega⟩ ⟨by omega, by omega⟩]
  omega
theorem zl_ne0 {b : Int} (hb : 0 < b) (hb' : b ≤ 9223372036854775807) : ¬ Int64.ofInt b = 0 := by
  have h : Int64.ofInt 0 = 0 := rfl
  rw [← h, zl_eq ⟨by omega, by omega⟩ ⟨by omega, by omega⟩]
  omega
theorem zi_z : Int32.ofInt 0 = 0 := rfl
theorem zl_of_i {a : Int} (h : zr a) : (Int32.ofInt a).toInt64 = Int64.ofInt a := by
  rw [← Int64.toInt_inj, zl_toInt ⟨by omega, by omega⟩, Int32.toInt_toInt64, zi_toInt h]
theorem zi_of_l (a : Int) : (Int64.ofInt a).toInt32 = Int32.ofInt a := by
  first | exact Int64.toInt32_ofInt a | simp
/-- lcmp -/
def zcmp (a b : Int) : Int := if b < a then 1 else if a = b then 0 else -1
theorem zi_cmp {a b : Int} (ha : zrl a) (hb : zrl b) : lg_cmp (Int64.ofInt a) (Int64.ofInt b) = Int32.ofInt (zcmp a b) := by
  unfold lg_cmp zcmp
  simp only [gt_iff_lt, zl_lt hb ha, zl_eq ha hb]
  split
  · rfl
  · split <;> rfl
section GO
variable {G : zG} {X : zX} {M : zM} {κ : zK} {n : Nat} {sh : Nat → zSh} {σ : zSt} {pc : Nat} {L L' : List (Nat × Value)} {st : List Value} {post : zPost}
theorem g_idiv {a b : Int} (hd : decode M.1 pc = .ok (.idiv, 1)) (hr : 0 ≤ a ∧ a ≤ 2147483647 ∧ 0 < b ∧ b ≤ 2147483647) (k : Go G X M κ n sh σ (pc + 1) L (vi (a / b) :: st) post) : Go G X M κ n sh σ pc L (vi b :: vi a :: st) post := fun C H locs ls h1 h2 h3 h4 => lv_idiv C.1 C.2.1 hd (zi_ne0 hr.2.2.1 hr.2.2.2) (by rw [zi_div hr.1 hr.2.1 hr.2.2.1 hr.2.2.2]; exact k C H locs ls h1 h2 h3 h4)
theorem g_irem {a b : Int} (hd : decode M.1 pc = .ok (.irem, 1)) (hr : 0 ≤ a ∧ a ≤ 2147483647 ∧ 0 < b ∧ b ≤ 2147483647) (k : Go G X M κ n sh σ (pc + 1) L (vi (a % b) :: st) post) : Go G X M κ n sh σ pc L (vi b :: vi a :: st) post := fun C H locs ls h1 h2 h3 h4 => lv_irem C.1 C.2.1 hd (zi_ne0 hr.2.2.1 hr.2.2.2) (by
  rw [zi_div hr.1 hr.2.1 hr.2.2.1 hr.2.2.2, ← Int32.ofInt_mul, ← Int32.ofInt_sub, show a - a / b * b = a % b by rw [Int.emod_def, Int.mul_comm]]
  exact k C H locs ls h1 h2 h3 h4)
theorem g_ldiv {a b : Int} (hd : decode M.1 pc = .ok (.ldiv, 1)) (hr : 0 ≤ a ∧ a ≤ 9223372036854775807 ∧ 0 < b ∧ b ≤ 9223372036854775807) (k : Go G X M κ n sh σ (pc + 1) L (vl (a / b) :: st) post) : Go G X M κ n sh σ pc L (vl b :: vl a :: st) post := fun C H locs ls h1 h2 h3 h4 => lv_ldiv C.1 C.2.1 hd (zl_ne0 hr.2.2.1 hr.2.2.2) (by rw [zl_div hr.1 hr.2.1 hr.2.2.1 hr.2.2.2]; exact k C H locs ls h1 h2 h3 h4)
theorem g_lrem {a b : Int} (hd : decode M.1 pc = .ok (.lrem, 1)) (hr : 0 ≤ a ∧ a ≤ 9223372036854775807 ∧ 0 < b ∧ b ≤ 9223372036854775807) (k : Go G X M κ n sh σ (pc + 1) L (vl (a % b) :: st) post) : Go G X M κ n sh σ pc L (vl b :: vl a :: st) post := fun C H locs ls h1 h2 h3 h4 => lv_lrem C.1 C.2.1 hd (zl_ne0 hr.2.2.1 hr.2.2.2) (by
  rw [zl_div hr.1 hr.2.1 hr.2.2.1 hr.2.2.2, ← Int64.ofInt_mul, ← Int64.ofInt_sub, show a - a / b * b = a % b by rw [Int.emod_def, Int.mul_comm]]
  exact k C H locs ls h1 h2 h3 h4)
theorem g_i2l {a : Int} (hd : decode M.1 pc = .ok (.i2l, 1)) (ha : zr a) (k : Go G X M κ n sh σ (pc + 1) L (vl a :: st) post) : Go G X M κ n sh σ pc L (vi a :: st) post := fun C H locs ls h1 h2 h3 h4 => lv_i2l C.1 C.2.1 hd (zl_of_i ha) (k C H locs ls h1 h2 h3 h4)
theorem g_l2i {a : Int} (hd : decode M.1 pc = .ok (.l2i, 1)) (k : Go G X M κ n sh σ (pc + 1) L (vi a :: st) post) : Go G X M κ n sh σ pc L (vl a :: st) post := fun C H locs ls h1 h2 h3 h4 => lv_l2i C.1 C.2.1 hd (zi_of_l a) (k C H locs ls h1 h2 h3 h4)
theorem g_lcmp {a b : Int} (hd : decode M.1 pc = .ok (.lcmp, 1)) (ha : zrl a) (hb : zrl b) (k : Go G X M κ n sh σ (pc + 1) L (vi (zcmp a b) :: st) post) : Go G X M κ n sh σ pc L (vl b :: vl a :: st) post := fun C H locs ls h1 h2 h3 h4 => W.lcmp C.1 C.2.1 hd (by rw [zi_cmp ha hb]; exact k C H locs ls h1 h2 h3 h4)
theorem g_goto {off : Int} {tgt : Nat} (hd : decode M.1 pc = .ok (.goto off, 3)) (ht : (pc : Int) + off = (tgt : Int)) (k : Go G X M κ n sh σ tgt L st post) : Go G X M κ n sh σ pc L st post := fun C H locs ls h1 h2 h3 h4 => lv_goto C.1 C.2.1 hd ht (k C H locs ls h1 h2 h3 h4)
theorem zr0 : zr 0 := ⟨by decide, by decide⟩
theorem g_if_eq {a off : Int} {tgt : Nat} (hd : decode M.1 pc = .ok (.ifCond .eq off, 3)) (ht : (pc : Int) + off = (tgt : Int)) (ha : zr a) (kt : a = 0 → Go G X M κ n sh σ tgt L st post) (kf : a ≠ 0 → Go G X M κ n sh σ (pc + 3) L st post) : Go G X M κ n sh σ pc L (vi a :: st) post := fun C H locs ls h1 h2 h3 h4 => lv_if_eq C.1 C.2.1 hd ht (fun h => kt ((zi_eq ha zr0).mp h) C H locs ls h1 h2 h3 h4) (fun h => kf (fun e => h ((zi_eq ha zr0).mpr e)) C H locs ls h1 h2 h3 h4)
theorem g_if_ne {a off : Int} {tgt : Nat} (hd : decode M.1 pc = .ok (.ifCond .ne off, 3)) (ht : (pc : Int) + off = (tgt : Int)) (ha : zr a) (kt : a ≠ 0 → Go G X M κ n sh σ tgt L st post) (kf : a = 0 → Go G X M κ n sh σ (pc + 3) L st post) : Go G X M κ n sh σ pc L (vi a :: st) post := fun C H locs ls h1 h2 h3 h4 => lv_if_ne C.1 C.2.1 hd ht (fun h => kt (fun e => h ((zi_eq ha zr0).mpr e)) C H locs ls h1 h2 h3 h4) (fun h => kf ((zi_eq ha zr0).mp h) C H locs ls h1 h2 h3 h4)
theorem g_if_lt {a off : Int} {tgt : Nat} (hd : decode M.1 pc = .ok (.ifCond .lt off, 3)) (ht : (pc : Int) + off = (tgt : Int)) (ha : zr a) (kt : a < 0 → Go G X M κ n sh σ tgt L st post) (kf : 0 ≤ a → Go G X M κ n sh σ (pc + 3) L st post) : Go G X M κ n sh σ pc L (vi a :: st) post := fun C H locs ls h1 h2 h3 h4 => lv_if_lt C.1 C.2.1 hd ht (fun h => kt ((zi_lt ha zr0).mp h) C H locs ls h1 h2 h3 h4) (fun h => kf (by have : ¬ (a < 0) := fun e => h ((zi_lt ha zr0).mpr e); omega) C H locs ls h1 h2 h3 h4)
theorem g_if_ge {a off : Int} {tgt : Nat} (hd : decode M.1 pc = .ok (.ifCond .ge off, 3)) (ht : (pc : Int) + off = (tgt : Int)) (ha : zr a) (kt : 0 ≤ a → Go G X M κ n sh σ tgt L st post) (kf : a < 0 → Go G X M κ n sh σ (pc + 3) L st post) : Go G X M κ n sh σ pc L (vi a :: st) post := fun C H locs ls h1 h2 h3 h4 => lv_if_ge C.1 C.2.1 hd ht (fun h => kt ((zi_le zr0 ha).mp h) C H locs ls h1 h2 h3 h4) (fun h => kf (by have : ¬ (0 ≤ a) := fun e => h ((zi_le zr0 ha).mpr e); omega) C H locs ls h1 h2 h3 h4)
theorem g_if_gt {a off : Int} {tgt : Nat} (hd : decode M.1 pc = .ok (.ifCond .gt off, 3)) (ht : (pc : Int) + off = (tgt : Int)) (ha : zr a) (kt : 0 < a → Go G X M κ n sh σ tgt L st post) (kf : a ≤ 0 → Go G X M κ n sh σ (pc + 3) L st post) : Go G X M κ n sh σ pc L (vi a :: st) post := fun C H locs ls h1 h2 h3 h4 => lv_if_gt C.1 C.2.1 hd ht (fun h => kt ((zi_lt zr0 ha).mp h) C H locs ls h1 h2 h3 h4) (fun h => kf (by have : ¬ (0 < a) := fun e => h ((zi_lt zr0 ha).mpr e); omega) C H locs ls h1 h2 h3 h4)
theorem g_if_le {a off : Int} {tgt : Nat} (hd : decode M.1 pc = .ok (.ifCond .le off, 3)) (ht : (pc : Int) + off = (tgt : Int)) (ha : zr a) (kt : a ≤ 0 → Go G X M κ n sh σ tgt L st post) (kf : 0 < a → Go G X M κ n sh σ (pc + 3) L st post) : Go G X M κ n sh σ pc L (vi a :: st) post := fun C H locs ls h1 h2 h3 h4 => lv_if_le C.1 C.2.1 hd ht (fun h => kt ((zi_le ha zr0).mp h) C H locs ls h1 h2 h3 h4) (fun h => kf (by have : ¬ (a ≤ 0) := fun e => h ((zi_le ha zr0).mpr e); omega) C H locs ls h1 h2 h3 h4)
theorem g_icmp_eq {a b off : Int} {tgt : Nat} (hd : decode M.1 pc = .ok (.if_icmp .eq off, 3)) (ht : (pc : Int) + off = (tgt : Int)) (ha : zr a) (hb : zr b) (kt : a = b → Go G X M κ n sh σ tgt L st post) (kf : a ≠ b → Go G X M κ n sh σ (pc + 3) L st post) : Go G X M κ n sh σ pc L (vi b :: vi a :: st) post := fun C H locs ls h1 h2 h3 h4 => lv_icmp_eq C.1 C.2.1 hd ht (fun h => kt ((zi_eq ha hb).mp h) C H locs ls h1 h2 h3 h4) (fun h => kf (fun e => h ((zi_eq ha hb).mpr e)) C H locs ls h1 h2 h3 h4)
theorem g_icmp_ne {a b off : Int} {tgt : Nat} (hd : decode M.1 pc = .ok (.if_icmp .ne off, 3)) (ht : (pc : Int) + off = (tgt : Int)) (ha : zr a) (hb : zr b) (kt : a ≠ b → Go G X M κ n sh σ tgt L st post) (kf : a = b → Go G X M κ n sh σ (pc + 3) L st post) : Go G X M κ n sh σ pc L (vi b :: vi a :: st) post := fun C H locs ls h1 h2 h3 h4 => lv_icmp_ne C.1 C.2.1 hd ht (fun h => kt (fun e => h ((zi_eq ha hb).mpr e)) C H locs ls h1 h2 h3 h4) (fun h => kf ((zi_eq ha hb).mp h) C H locs ls h1 h2 h3 h4)
theorem g_icmp_lt {a b off : Int} {tgt : Nat} (hd : decode M.1 pc = .ok (.if_icmp .lt off, 3)) (ht : (pc : Int) + off = (tgt : Int)) (ha : zr a) (hb : zr b) (kt : a < b → Go G X M κ n sh σ tgt L st post) (kf : b ≤ a → Go G X M κ n sh σ (pc + 3) L st post) : Go G X M κ n sh σ pc L (vi b :: vi a :: st) post := fun C H locs ls h1 h2 h3 h4 => lv_icmp_lt C.1 C.2.1 hd ht (fun h => kt ((zi_lt ha hb).mp h) C H locs ls h1 h2 h3 h4) (fun h => kf (by have : ¬ (a < b) := fun e => h ((zi_lt ha hb).mpr e); omega) C H locs ls h1 h2 h3 h4)
theorem g_icmp_ge {a b off : Int} {tgt : Nat} (hd : decode M.1 pc = .ok (.if_icmp .ge off, 3)) (ht : (pc : Int) + off = (tgt : Int)) (ha : zr a) (hb : zr b) (kt : b ≤ a → Go G X M κ n sh σ tgt L st post) (kf : a < b → Go G X M κ n sh σ (pc + 3) L st post) : Go G X M κ n sh σ pc L (vi b :: vi a :: st) post := fun C H locs ls h1 h2 h3 h4 => lv_icmp_ge C.1 C.2.1 hd ht (fun h => kt ((zi_le hb ha).mp h) C H locs ls h1 h2 h3 h4) (fun h => kf (by have : ¬ (b ≤ a) := fun e => h ((zi_le hb ha).mpr e); omega) C H locs ls h1 h2 h3 h4)
theorem g_icmp_gt {a b off : Int} {tgt : Nat} (hd : decode M.1 pc = .ok (.if_icmp .gt off, 3)) (ht : (pc : Int) + off = (tgt : Int)) (ha : zr a) (hb : zr b) (kt : b < a → Go G X M κ n sh σ tgt L st post) (kf : a ≤ b → Go G X M κ n sh σ (pc + 3) L st post) : Go G X M κ n sh σ pc L (vi b :: vi a :: st) post := fun C H locs ls h1 h2 h3 h4 => lv_icmp_gt C.1 C.2.1 hd ht (fun h => kt ((zi_lt hb ha).mp h) C H locs ls h1 h2 h3 h4) (fun h => kf (by have : ¬ (b < a) := fun e => h ((zi_lt hb ha).mpr e); omega) C H locs ls h1 h2 h3 h4)
theorem g_icmp_le {a b off : Int} {tgt : Nat} (hd : decode M.1 pc = .ok (.if_icmp .le off, 3)) (ht : (pc : Int) + off = (tgt : Int)) (ha : zr a) (hb : zr b) (kt : a ≤ b → Go G X M κ n sh σ tgt L st post) (kf : b < a → Go G X M κ n sh σ (pc + 3) L st post) : Go G X M κ n sh σ pc L (vi b :: vi a :: st) post := fun C H locs ls h1 h2 h3 h4 => lv_icmp_le C.1 C.2.1 hd ht (fun h => kt ((zi_le ha hb).mp h) C H locs ls h1 h2 h3 h4) (fun h => kf (by have : ¬ (a ≤ b) := fun e => h ((zi_le ha hb).mpr e); omega) C H locs ls h1 h2 h3 h4)
theorem g_tableIn {dflt lo hi : Int} {offs : Array Int} {len : Nat} {a off : Int} {tgt : Nat} (hd : decode M.1 pc = .ok (.tableswitch dflt lo hi offs, len)) (ha : zr a) (h1 : lo ≤ a) (h2 : a ≤ hi) (ho : offs[(a - lo).toNat]? = some off) (ht : (pc : Int) + off = (tgt : Int)) (k : Go G X M κ n sh σ tgt L st post) : Go G X M κ n sh σ pc L (vi a :: st) post := fun C H locs ls q1 q2 q3 q4 => lv_tableIn C.1 C.2.1 hd (by rw [zi_toInt ha]; omega) (by rw [zi_toInt ha]; omega) (by rw [zi_toInt ha]; exact ho) ht (k C H locs ls q1 q2 q3 q4)
theorem g_tableOut {dflt lo hi : Int} {offs : Array Int} {len : Nat} {a : Int} {tgt : Nat} (hd : decode M.1 pc = .ok (.tableswitch dflt lo hi offs, len)) (ha : zr a) (h : a < lo ∨ hi < a) (ht : (pc : Int) + dflt = (tgt : Int)) (k : Go G X M κ n sh σ tgt L st post) : Go G X M κ n sh σ pc L (vi a :: st) post := fun C H locs ls q1 q2 q3 q4 => lv_tableOut C.1 C.2.1 hd (by rw [zi_toInt ha]; exact h) ht (k C H locs ls q1 q2 q3 q4)
theorem g_lookup {dflt : Int} {ps : Array (Int × Int)} {len : Nat} {a off : Int} {tgt : Nat} (hd : decode M.1 pc = .ok (.lookupswitch dflt ps, len)) (hp : (ps.toList.zip (ps.toList.drop 1)).all (fun (a, next) => a.1 < next.1) = true) (ha : zr a) (ho : Op.lookupswitch.offset ps.toList dflt a = off) (ht : (pc : Int) + off = (tgt : Int)) (k : Go G X M κ n sh σ tgt L st post) : Go G X M κ n sh σ pc L (vi a :: st) post := fun C H locs ls q1 q2 q3 q4 => lv_lookup C.1 C.2.1 hd hp (by rw [zi_toInt ha]; exact ho) ht (k C H locs ls q1 q2 q3 q4)
end GO
