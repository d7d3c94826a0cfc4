/-! counting, finding, sets of bits -/
def zcnt (p : Nat → Bool) : Nat → Nat
  | 0 => 0
  | n + 1 => zcnt p n + (if p n = true then 1 else 0)
/-- the first one below n, or -1 -/
def zfst (p : Nat → Bool) : Nat → Int
  | 0 => -1
  | n + 1 => if zfst p n = -1 then (if p n = true then (n : Int) else -1) else zfst p n
def zbits (p : Nat → Bool) : Nat → Nat
  | 0 => 0
  | n + 1 => zbits p n + (if p n = true then 2 ^ n else 0)
theorem zcnt_le (p : Nat → Bool) : ∀ n, zcnt p n ≤ n
  | 0 => Nat.le_refl 0
  | n + 1 => by
    have := zcnt_le p n
    unfold zcnt
    split <;> omega
theorem zcnt_t {p : Nat → Bool} {n : Nat} (h : p n = true) : zcnt p (n + 1) = zcnt p n + 1 := by simp [zcnt, h]
theorem zcnt_f {p : Nat → Bool} {n : Nat} (h : p n = false) : zcnt p (n + 1) = zcnt p n := by simp [zcnt, h]
theorem zcnt_congr {p q : Nat → Bool} : ∀ {n : Nat}, (∀ k, k < n → p k = q k) → zcnt p n = zcnt q n
  | 0, _ => rfl
  | n + 1, h => by
    unfold zcnt
    rw [zcnt_congr (fun k hk => h k (by omega)), h n (by omega)]
theorem zfst_none {p : Nat → Bool} : ∀ {n : Nat}, (∀ k, k < n → p k = false) → zfst p n = -1
  | 0, _ => rfl
  | n + 1, h => by
    unfold zfst
    rw [zfst_none (fun k hk => h k (by omega)), h n (by omega)]
    simp
theorem zfst_at {p : Nat → Bool} {i : Nat} (hb : ∀ k, k < i → p k = false) (hi : p i = true) : ∀ {n : Nat}, i < n → zfst p n = (i : Int)
  | 0, h => by omega
  | n + 1, h => by
    unfold zfst
    rcases Nat.lt_or_ge i n with q | q
    · rw [zfst_at hb hi q, if_neg (by omega)]
    · have e : n = i := by omega
      subst e
      rw [zfst_none hb, if_pos rfl, if_pos hi]
theorem zfst_spec {p : Nat → Bool} : ∀ {n : Nat}, (zfst p n = -1 ∧ ∀ k, k < n → p k = false) ∨ ∃ i : Nat, zfst p n = (i : Int) ∧ i < n ∧ p i = true ∧ ∀ k, k < i → p k = false
  | 0 => Or.inl ⟨rfl, fun k h => by omega⟩
  | n + 1 => by
    rcases zfst_spec (p := p) (n := n) with ⟨h1, h2⟩ | ⟨i, h1, h2, h3, h4⟩
    · cases hp : p n with
      | false => exact Or.inl ⟨by unfold zfst; rw [h1, hp]; simp, fun k hk => by
          rcases Nat.lt_or_ge k n with q | q
          · exact h2 k q
          · rw [show k = n by omega]; exact hp⟩
      | true => exact Or.inr ⟨n, by unfold zfst; rw [h1, hp]; simp, by omega, hp, h2⟩
    · exact Or.inr ⟨i, by unfold zfst; rw [if_neg (by omega)]; exact h1, by omega, h3, h4⟩
theorem zfst_congr {p q : Nat → Bool} : ∀ {n : Nat}, (∀ k, k < n → p k = q k) → zfst p n = zfst q n
  | 0, _ => rfl
  | n + 1, h => by
    unfold zfst
    rw [zfst_congr (fun k hk => h k (by omega)), h n (by omega)]
theorem zfst_range {p : Nat → Bool} {n : Nat} : -1 ≤ zfst p n ∧ zfst p n < n := by
  rcases zfst_spec (p := p) (n := n) with ⟨h1, -⟩ | ⟨i, h1, h2, -⟩ <;> omega
theorem zbits_lt (p : Nat → Bool) : ∀ n, zbits p n < 2 ^ n
  | 0 => Nat.zero_lt_one
  | n + 1 => by
    have := zbits_lt p n
    unfold zbits
    rw [Nat.pow_succ]
    split <;> omega
theorem zbits_t {p : Nat → Bool} {n : Nat} (h : p n = true) : zbits p (n + 1) = zbits p n ||| 2 ^ n := by
  have h1 := Nat.two_pow_add_eq_or_of_lt (zbits_lt p n) 1
  simp only [Nat.mul_one] at h1
  rw [Nat.or_comm, ← h1]
  simp [zbits, h, Nat.add_comm]
theorem zbits_f {p : Nat → Bool} {n : Nat} (h : p n = false) : zbits p (n + 1) = zbits p n := by simp [zbits, h]
theorem zbits_congr {p q : Nat → Bool} : ∀ {n : Nat}, (∀ k, k < n → p k = q k) → zbits p n = zbits q n
  | 0, _ => rfl
  | n + 1, h => by
    unfold zbits
    rw [zbits_congr (fun k hk => h k (by omega)), h n (by omega)]
theorem zbits_le {p : Nat → Bool} {n m : Nat} (h : n ≤ m) : zbits p n < 2 ^ m := Nat.lt_of_lt_of_le (zbits_lt p n) (Nat.pow_le_pow_right (by decide) h)
theorem zbits_test {p : Nat → Bool} : ∀ {n k : Nat}, (zbits p n).testBit k = (decide (k < n) && p k)
  | 0, k => by simp [zbits]
  | n + 1, k => by
    cases hp : p n with
    | false =>
      rw [zbits_f hp, zbits_test]
      by_cases hk : k = n
      · subst hk; simp [hp]
      · by_cases h2 : k < n
        · simp [h2, show k < n + 1 by omega]
        · simp [h2, show ¬ k < n + 1 by omega]
    | true =>
      rw [zbits_t hp, Nat.testBit_or, zbits_test, Nat.testBit_two_pow]
      by_cases hk : k = n
      · subst hk; simp [hp]
      · by_cases h2 : k < n
        · simp [h2, show k < n + 1 by omega, show ¬ n = k by omega]
        · simp [h2, show ¬ k < n + 1 by omega, show ¬ n = k by omega]
theorem zb0 {p : Prop} [Decidable p] : (if p then (1 : Int) else 0) = 0 ↔ ¬ p := by split <;> simp_all
theorem zb1 {p : Prop} [Decidable p] : (if p then (1 : Int) else 0) ≠ 0 ↔ p := by split <;> simp_all
theorem zb01 {p : Prop} [Decidable p] : (if p then (1 : Int) else 0) = 0 ∨ (if p then (1 : Int) else 0) = 1 := by split <;> simp
theorem zbr {p : Prop} [Decidable p] : zr (if p then (1 : Int) else 0) := by split <;> exact ⟨by decide, by decide⟩
/-! the machine's bits -/
theorem zi_or {x y : Nat} (hx : x < 2147483648) (hy : y < 2147483648) : Int32.ofInt (x : Int) ||| Int32.ofInt (y : Int) = Int32.ofInt ((x ||| y : Nat) : Int) := by
  have h : x ||| y < 2147483648 := Nat.or_lt_two_pow (n := 31) hx hy
  rw [zi_nat, zi_nat, zi_nat]
  apply Int32.toBitVec_inj.mp
  apply BitVec.eq_of_toNat_eq
  rw [Int32.toBitVec_or, BitVec.toNat_or, pk_tn (by omega), pk_tn (by omega), pk_tn (by omega)]
theorem zi_and {x y : Nat} (hx : x < 2147483648) (hy : y < 2147483648) : Int32.ofInt (x : Int) &&& Int32.ofInt (y : Int) = Int32.ofInt ((x &&& y : Nat) : Int) := by
  have h : x &&& y ≤ x := Nat.and_le_left
  rw [zi_nat, zi_nat, zi_nat]
  apply Int32.toBitVec_inj.mp
  apply BitVec.eq_of_toNat_eq
  rw [Int32.toBitVec_and, BitVec.toNat_and, pk_tn (by omega), pk_tn (by omega), pk_tn (by omega)]
theorem zi_shl1 {i : Nat} (h : i < 31) : Int32.ofInt 1 <<< (Int32.ofInt (i : Int) &&& 31) = Int32.ofInt ((2 ^ i : Nat) : Int) := by
  have : ∀ i : Nat, i < 31 → Int32.ofInt 1 <<< (Int32.ofInt (i : Int) &&& 31) = Int32.ofInt ((2 ^ i : Nat) : Int) := by decide
  exact this i h
theorem zi_shr {x i : Nat} (hx : x < 2147483648) (h : i < 31) : Int32.ofInt (x : Int) >>> (Int32.ofInt (i : Int) &&& 31) = Int32.ofInt ((x / 2 ^ i : Nat) : Int) := by
  have h1 : ∀ i : Nat, i < 31 → ((Int32.ofInt (i : Int) &&& 31).toBitVec.smod 32).toNat = i := by decide
  rw [zi_nat x, zi_nat (x / 2 ^ i)]
  exact pk_shrN hx _ i (h1 i h)
section GO
variable {G : zG} {X : zX} {M : zM} {κ : zK} {n : Nat} {sh : Nat → zSh} {σ : zSt} {pc : Nat} {L L' : List (Nat × Value)} {st : List Value} {post : zPost}
theorem g_ior {x y : Nat} (hd : decode M.1 pc = .ok (.ior, 1)) (hx : x < 2147483648) (hy : y < 2147483648) (k : Go G X M κ n sh σ (pc + 1) L (vi ((x ||| y : Nat) : Int) :: st) post) : Go G X M κ n sh σ pc L (vi (y : Int) :: vi (x : Int) :: st) post := fun C H locs ls h1 h2 h3 h4 => lv_ior C.1 C.2.1 hd (by rw [zi_or hx hy]; exact k C H locs ls h1 h2 h3 h4)
theorem g_iand {x y : Nat} (hd : decode M.1 pc = .ok (.iand, 1)) (hx : x < 2147483648) (hy : y < 2147483648) (k : Go G X M κ n sh σ (pc + 1) L (vi ((x &&& y : Nat) : Int) :: st) post) : Go G X M κ n sh σ pc L (vi (y : Int) :: vi (x : Int) :: st) post := fun C H locs ls h1 h2 h3 h4 => lv_iand C.1 C.2.1 hd (by rw [zi_and hx hy]; exact k C H locs ls h1 h2 h3 h4)
theorem g_ishl1 {i : Nat} (hd : decode M.1 pc = .ok (.ishl, 1)) (hi : i < 31) (k : Go G X M κ n sh σ (pc + 1) L (vi ((2 ^ i : Nat) : Int) :: st) post) : Go G X M κ n sh σ pc L (vi (i : Int) :: vi 1 :: st) post := fun C H locs ls h1 h2 h3 h4 => lv_ishl C.1 C.2.1 hd (by rw [zi_shl1 hi]; exact k C H locs ls h1 h2 h3 h4)
theorem g_ishr {x i : Nat} (hd : decode M.1 pc = .ok (.ishr, 1)) (hx : x < 2147483648) (hi : i < 31) (k : Go G X M κ n sh σ (pc + 1) L (vi ((x / 2 ^ i : Nat) : Int) :: st) post) : Go G X M κ n sh σ pc L (vi (i : Int) :: vi (x : Int) :: st) post := fun C H locs ls h1 h2 h3 h4 => lv_ishr C.1 C.2.1 hd (by rw [zi_shr hx hi]; exact k C H locs ls h1 h2 h3 h4)
end GO
