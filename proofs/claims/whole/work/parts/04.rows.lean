/-! numbers of the machine as integers -/
abbrev zr (a : Int) : Prop := -2147483648 ≤ a ∧ a ≤ 2147483647
abbrev zrl (a : Int) : Prop := -9223372036854775808 ≤ a ∧ a ≤ 9223372036854775807
theorem zi_toInt {a : Int} (h : zr a) : (Int32.ofInt a).toInt = a := Int32.toInt_ofInt_of_le (by omega) (by omega)
theorem zl_toInt {a : Int} (h : zrl a) : (Int64.ofInt a).toInt = a := Int64.toInt_ofInt_of_le (by omega) (by omega)
theorem zi_lt {a b : Int} (ha : zr a) (hb : zr b) : Int32.ofInt a < Int32.ofInt b ↔ a < b := by rw [Int32.lt_iff_toInt_lt, zi_toInt ha, zi_toInt hb]
theorem zi_le {a b : Int} (ha : zr a) (hb : zr b) : Int32.ofInt a ≤ Int32.ofInt b ↔ a ≤ b := by rw [Int32.le_iff_toInt_le, zi_toInt ha, zi_toInt hb]
theorem zi_eq {a b : Int} (ha : zr a) (hb : zr b) : Int32.ofInt a = Int32.ofInt b ↔ a = b := by rw [← Int32.toInt_inj, zi_toInt ha, zi_toInt hb]
theorem zl_lt {a b : Int} (ha : zrl a) (hb : zrl b) : Int64.ofInt a < Int64.ofInt b ↔ a < b := by rw [Int64.lt_iff_toInt_lt, zl_toInt ha, zl_toInt hb]
theorem zl_le {a b : Int} (ha : zrl a) (hb : zrl b) : Int64.ofInt a ≤ Int64.ofInt b ↔ a ≤ b := by rw [Int64.le_iff_toInt_le, zl_toInt ha, zl_toInt hb]
theorem zl_eq {a b : Int} (ha : zrl a) (hb : zrl b) : Int64.ofInt a = Int64.ofInt b ↔ a = b := by rw [← Int64.toInt_inj, zl_toInt ha, zl_toInt hb]
theorem zi_of (x : Int32) : x = Int32.ofInt x.toInt := (Int32.ofInt_toInt x).symm
theorem zi_range (x : Int32) : zr x.toInt := ⟨by have := x.le_toInt; omega, by have := x.toInt_lt; omega⟩
theorem zi_in {i : Int} {j n : Nat} (hi : i = (j : Int)) (hj : j < n) (hn : n < 2147483648) : vp_in (Int32.ofInt i) n := by
  rw [vp_in_iff, zi_toInt ⟨by omega, by omega⟩]
  omega
theorem zi_cl {i : Int} {j : Nat} (hi : i = (j : Int)) (hj : j < 2147483648) : (Int32.ofInt i).toNatClampNeg = j := by
  show (Int32.ofInt i).toInt.toNat = j
  rw [zi_toInt ⟨by omega, by omega⟩]
  omega
theorem zi_nar {ty : FieldType} {a : Int} (h : ty = .int ∨ ty = .boolean ∧ (a = 0 ∨ a = 1)) : narrow ty (vi a) = vi a := by
  rcases h with rfl | ⟨rfl, rfl | rfl⟩ <;> rfl
/-! locals -/
def zget : List (Nat × Value) → Nat → Option Value
  | [], _ => none
  | q :: t, i => if q.1 = i then some q.2 else zget t i
def zput : List (Nat × Value) → Nat → Value → List (Nat × Value)
  | [], i, v => [(i, v)]
  | q :: t, i, v => if q.1 = i then (i, v) :: t else q :: zput t i v
/-- nothing else stands in the way: no long at the place before; for a long nothing at the place behind -/
def zok (L : List (Nat × Value)) (i : Nat) (two : Bool) : Bool := L.all (fun q => q.1 == i || (!(q.1 + 1 == i && q.2.category == 2) && !(two && q.1 == i + 1)))
def znd : List (Nat × Value) → Bool
  | [] => true
  | q :: t => t.all (fun p => !(p.1 == q.1)) && znd t
theorem zget_mem : ∀ {L : List (Nat × Value)} {i : Nat} {v : Value}, zget L i = some v → (i, v) ∈ L
  | [], i, v, h => by cases h
  | q :: t, i, v, h => by
    unfold zget at h
    split at h
    · next hq =>
      cases h
      subst hq
      exact List.mem_cons_self
    · exact List.mem_cons_of_mem _ (zget_mem h)
theorem zget_has {ls : Array Slot} {nL : Nat} {L : List (Nat × Value)} {i : Nat} {v : Value} (h : lv_has ls nL L) (hg : zget L i = some v) : ls[i]? = some (.val v) := h.2.2 (i, v) (zget_mem hg)
theorem zput_mem : ∀ {L : List (Nat × Value)} {i : Nat} {v : Value}, (L.map (·.1)).Nodup → ∀ q ∈ zput L i v, q = (i, v) ∨ (q ∈ L ∧ q.1 ≠ i)
  | [], i, v, _, q, h => by
    rw [zput, List.mem_singleton] at h
    exact Or.inl h
  | p :: t, i, v, hn, q, h => by
    rw [List.map_cons, List.nodup_cons] at hn
    unfold zput at h
    split at h
    · next hp =>
      rcases List.mem_cons.mp h with h | h
      · exact Or.inl h
      · refine Or.inr ⟨List.mem_cons_of_mem _ h, fun e => hn.1 ?_⟩
        rw [hp, ← e]
        exact List.mem_map_of_mem h
    · next hp =>
      rcases List.mem_cons.mp h with h | h
      · subst h
        exact Or.inr ⟨List.mem_cons_self, hp⟩
      · rcases zput_mem hn.2 q h with h | h
        · exact Or.inl h
        · exact Or.inr ⟨List.mem_cons_of_mem _ h.1, h.2⟩
theorem znd_of : ∀ {L : List (Nat × Value)}, znd L = true → (L.map (·.1)).Nodup
  | [], _ => List.nodup_nil
  | q :: t, h => by
    unfold znd at h
    rw [Bool.and_eq_true] at h
    rw [List.map_cons, List.nodup_cons]
    refine ⟨fun hm => ?_, znd_of h.2⟩
    obtain ⟨p, hp, he⟩ := List.mem_map.mp hm
    have := List.all_eq_true.mp h.1 p hp
    simp [he] at this
theorem zput_has1 {ls : Array Slot} {nL : Nat} {L L' : List (Nat × Value)} {i : Nat} {v : Value} (h : lv_has ls nL ((i, v) :: L.filter (fun q => !(q.1 == i) && !(q.1 + 1 == i && q.2.category == 2)))) (hn : znd L = true) (ho : zok L i false = true) (hL : zput L i v = L') : lv_has ls nL L' := by
  refine ⟨h.1, h.2.1, fun q hq => h.2.2 q ?_⟩
  rw [← hL] at hq
  rcases zput_mem (znd_of hn) q hq with e | ⟨h1, h2⟩
  · rw [e]; exact List.mem_cons_self
  · refine List.mem_cons_of_mem _ (List.mem_filter.mpr ⟨h1, ?_⟩)
    have := List.all_eq_true.mp ho q h1
    simp only [Bool.or_eq_true, beq_iff_eq, Bool.and_eq_true] at this
    rcases this with e | e
    · exact absurd e h2
    · simp only [Bool.and_eq_true]
      exact ⟨by simp [h2], e.1⟩
theorem zput_has2 {ls : Array Slot} {nL : Nat} {L L' : List (Nat × Value)} {i : Nat} {v : Value} (h : lv_has ls nL ((i, v) :: L.filter (fun q => !(q.1 == i) && (!(q.1 == i + 1) && !(q.1 + 1 == i && q.2.category == 2))))) (hn : znd L = true) (ho : zok L i true = true) (hL : zput L i v = L') : lv_has ls nL L' := by
  refine ⟨h.1, h.2.1, fun q hq => h.2.2 q ?_⟩
  rw [← hL] at hq
  rcases zput_mem (znd_of hn) q hq with e | ⟨h1, h2⟩
  · rw [e]; exact List.mem_cons_self
  · refine List.mem_cons_of_mem _ (List.mem_filter.mpr ⟨h1, ?_⟩)
    have := List.all_eq_true.mp ho q h1
    simp only [Bool.or_eq_true, beq_iff_eq, Bool.and_eq_true] at this
    rcases this with e | e
    · exact absurd e h2
    · simp only [Bool.and_eq_true]
      refine ⟨by simp [h2], ?_, e.1⟩
      have := e.2
      simpa using this
section GO
variable {G : zG} {X : zX} {M : zM} {κ : zK} {n : Nat} {sh : Nat → zSh} {σ : zSt} {pc : Nat} {L L' : List (Nat × Value)} {st : List Value} {post : zPost}
/-- fewer locals -/
theorem g_less (ks : List Nat) (hl : lv_pick L ks = L') (k : Go G X M κ n sh σ pc L' st post) : Go G X M κ n sh σ pc L st post := fun C H locs ls h1 h2 h3 h4 => k C H locs ls h1 h2 h3 (lv_sub h4 ks hl)
/-- another name for the state -/
theorem g_eq {σ' : zSt} {st' : List Value} (h : Go G X M κ n sh σ' pc L' st' post) (e1 : σ = σ') (e2 : L = L') (e3 : st = st') : Go G X M κ n sh σ pc L st post := by subst e1; subst e2; subst e3; exact h
theorem g_iconst {a : Int} (hd : decode M.1 pc = .ok (.iconst a, 1)) (k : Go G X M κ n sh σ (pc + 1) L (vi a :: st) post) : Go G X M κ n sh σ pc L st post := fun C H locs ls h1 h2 h3 h4 => lv_iconst C.1 C.2.1 hd rfl (k C H locs ls h1 h2 h3 h4)
theorem g_bipush {a : Int} (hd : decode M.1 pc = .ok (.bipush a, 2)) (ha : (Int8.ofInt a).toInt32 = Int32.ofInt a) (k : Go G X M κ n sh σ (pc + 2) L (vi a :: st) post) : Go G X M κ n sh σ pc L st post := fun C H locs ls h1 h2 h3 h4 => lv_bipush C.1 C.2.1 hd ha (k C H locs ls h1 h2 h3 h4)
theorem g_sipush {a : Int} (hd : decode M.1 pc = .ok (.sipush a, 3)) (ha : (Int16.ofInt a).toInt32 = Int32.ofInt a) (k : Go G X M κ n sh σ (pc + 3) L (vi a :: st) post) : Go G X M κ n sh σ pc L st post := fun C H locs ls h1 h2 h3 h4 => lv_sipush C.1 C.2.1 hd ha (k C H locs ls h1 h2 h3 h4)
theorem g_lconst {c : Fin 2} {a : Int} (hd : decode M.1 pc = .ok (.lconst c, 1)) (ha : Int64.ofNat (c : Nat) = Int64.ofInt a) (k : Go G X M κ n sh σ (pc + 1) L (vl a :: st) post) : Go G X M κ n sh σ pc L st post := fun C H locs ls h1 h2 h3 h4 => lv_lconst C.1 C.2.1 hd ha (k C H locs ls h1 h2 h3 h4)
theorem g_ldc2 {x : Nat} {a : Int} {w : Int64} (hd : decode M.1 pc = .ok (.ldc2_w x, 3)) (hw : Cond.constantLong M.2.1 x w ∈ zT) (ha : w = Int64.ofInt a) (k : Go G X M κ n sh σ (pc + 3) L (vl a :: st) post) : Go G X M κ n sh σ pc L st post := fun C H locs ls h1 h2 h3 h4 => by
  subst ha
  exact lv_ldc2 C.1 C.2.1 C.2.2.2.1 (C.2.2.2.2.1 _ hw) hd (k C H locs ls h1 h2 h3 h4)
/-! loads -/
theorem g_iload_n {i : Fin 4} {a : Int} (hd : decode M.1 pc = .ok (.iload_n i, 1)) (hl : zget L i = some (vi a)) (k : Go G X M κ n sh σ (pc + 1) L (vi a :: st) post) : Go G X M κ n sh σ pc L st post := fun C H locs ls h1 h2 h3 h4 => lv_iload_n C.1 C.2.1 hd rfl (zget_has h4 hl) (k C H locs ls h1 h2 h3 h4)
theorem g_iload {i : Nat} {a : Int} (hd : decode M.1 pc = .ok (.iload i, 2)) (hl : zget L i = some (vi a)) (k : Go G X M κ n sh σ (pc + 2) L (vi a :: st) post) : Go G X M κ n sh σ pc L st post := fun C H locs ls h1 h2 h3 h4 => lv_iload C.1 C.2.1 hd (zget_has h4 hl) (k C H locs ls h1 h2 h3 h4)
theorem g_lload_n {i : Fin 4} {a : Int} (hd : decode M.1 pc = .ok (.lload_n i, 1)) (hl : zget L i = some (vl a)) (k : Go G X M κ n sh σ (pc + 1) L (vl a :: st) post) : Go G X M κ n sh σ pc L st post := fun C H locs ls h1 h2 h3 h4 => lv_lload_n C.1 C.2.1 hd rfl (zget_has h4 hl) (k C H locs ls h1 h2 h3 h4)
theorem g_lload {i : Nat} {a : Int} (hd : decode M.1 pc = .ok (.lload i, 2)) (hl : zget L i = some (vl a)) (k : Go G X M κ n sh σ (pc + 2) L (vl a :: st) post) : Go G X M κ n sh σ pc L st post := fun C H locs ls h1 h2 h3 h4 => lv_lload C.1 C.2.1 hd (zget_has h4 hl) (k C H locs ls h1 h2 h3 h4)
theorem g_aload_n {i : Fin 4} {a : Nat} (hd : decode M.1 pc = .ok (.aload_n i, 1)) (hl : zget L i = some (.ref a)) (k : Go G X M κ n sh σ (pc + 1) L (.ref a :: st) post) : Go G X M κ n sh σ pc L st post := fun C H locs ls h1 h2 h3 h4 => lv_aload_n C.1 C.2.1 hd rfl (zget_has h4 hl) (k C H locs ls h1 h2 h3 h4)
theorem g_aload {i : Nat} {a : Nat} (hd : decode M.1 pc = .ok (.aload i, 2)) (hl : zget L i = some (.ref a)) (k : Go G X M κ n sh σ (pc + 2) L (.ref a :: st) post) : Go G X M κ n sh σ pc L st post := fun C H locs ls h1 h2 h3 h4 => lv_aload C.1 C.2.1 hd (zget_has h4 hl) (k C H locs ls h1 h2 h3 h4)
/-! stores: L' is the new list; the two checks are by rfl -/
theorem g_istore_n {i : Fin 4} {a : Int} (hd : decode M.1 pc = .ok (.istore_n i, 1)) (hL : zput L i (vi a) = L') (ho : (znd L && zok L i false && decide ((i : Nat) < M.2.2.1)) = true) (k : Go G X M κ n sh σ (pc + 1) L' st post) : Go G X M κ n sh σ pc L (vi a :: st) post := fun C H locs ls h1 h2 h3 h4 => by
  simp only [Bool.and_eq_true, decide_eq_true_eq] at ho
  exact lv_istore_n C.1 C.2.1 hd rfl h4 ho.2 rfl (fun ls' hl' => k C H locs ls' h1 h2 h3 (zput_has1 hl' ho.1.1 ho.1.2 hL))
theorem g_istore {i : Nat} {a : Int} (hd : decode M.1 pc = .ok (.istore i, 2)) (hL : zput L i (vi a) = L') (ho : (znd L && zok L i false && decide ((i : Nat) < M.2.2.1)) = true) (k : Go G X M κ n sh σ (pc + 2) L' st post) : Go G X M κ n sh σ pc L (vi a :: st) post := fun C H locs ls h1 h2 h3 h4 => by
  simp only [Bool.and_eq_true, decide_eq_true_eq] at ho
  exact lv_istore C.1 C.2.1 hd h4 ho.2 rfl (fun ls' hl' => k C H locs ls' h1 h2 h3 (zput_has1 hl' ho.1.1 ho.1.2 hL))
theorem g_lstore_n {i : Fin 4} {a : Int} (hd : decode M.1 pc = .ok (.lstore_n i, 1)) (hL : zput L i (vl a) = L') (ho : (znd L && zok L i true && decide ((i : Nat) + 1 < M.2.2.1)) = true) (k : Go G X M κ n sh σ (pc + 1) L' st post) : Go G X M κ n sh σ pc L (vl a :: st) post := fun C H locs ls h1 h2 h3 h4 => by
  simp only [Bool.and_eq_true, decide_eq_true_eq] at ho
  exact lv_lstore_n C.1 C.2.1 hd rfl h4 ho.2 rfl (fun ls' hl' => k C H locs ls' h1 h2 h3 (zput_has2 hl' ho.1.1 ho.1.2 hL))
theorem g_lstore {i : Nat} {a : Int} (hd : decode M.1 pc = .ok (.lstore i, 2)) (hL : zput L i (vl a) = L') (ho : (znd L && zok L i true && decide ((i : Nat) + 1 < M.2.2.1)) = true) (k : Go G X M κ n sh σ (pc + 2) L' st post) : Go G X M κ n sh σ pc L (vl a :: st) post := fun C H locs ls h1 h2 h3 h4 => by
  simp only [Bool.and_eq_true, decide_eq_true_eq] at ho
  exact lv_lstore C.1 C.2.1 hd h4 ho.2 rfl (fun ls' hl' => k C H locs ls' h1 h2 h3 (zput_has2 hl' ho.1.1 ho.1.2 hL))
theorem g_astore_n {i : Fin 4} {a : Nat} (hd : decode M.1 pc = .ok (.astore_n i, 1)) (hL : zput L i (.ref a) = L') (ho : (znd L && zok L i false && decide ((i : Nat) < M.2.2.1)) = true) (k : Go G X M κ n sh σ (pc + 1) L' st post) : Go G X M κ n sh σ pc L (.ref a :: st) post := fun C H locs ls h1 h2 h3 h4 => by
  simp only [Bool.and_eq_true, decide_eq_true_eq] at ho
  exact lv_astore_n C.1 C.2.1 hd rfl h4 ho.2 rfl (fun ls' hl' => k C H locs ls' h1 h2 h3 (zput_has1 hl' ho.1.1 ho.1.2 hL))
theorem g_astore {i : Nat} {a : Nat} (hd : decode M.1 pc = .ok (.astore i, 2)) (hL : zput L i (.ref a) = L') (ho : (znd L && zok L i false && decide ((i : Nat) < M.2.2.1)) = true) (k : Go G X M κ n sh σ (pc + 2) L' st post) : Go G X M κ n sh σ pc L (.ref a :: st) post := fun C H locs ls h1 h2 h3 h4 => by
  simp only [Bool.and_eq_true, decide_eq_true_eq] at ho
  exact lv_astore C.1 C.2.1 hd h4 ho.2 rfl (fun ls' hl' => k C H locs ls' h1 h2 h3 (zput_has1 hl' ho.1.1 ho.1.2 hL))
theorem g_iinc {i : Nat} {a b : Int} (hd : decode M.1 pc = .ok (.iinc i b, 3)) (hl : zget L i = some (vi a)) (hL : zput L i (vi (a + b)) = L') (ho : (znd L && zok L i false && decide ((i : Nat) < M.2.2.1)) = true) (k : Go G X M κ n sh σ (pc + 3) L' st post) : Go G X M κ n sh σ pc L st post := fun C H locs ls h1 h2 h3 h4 => by
  simp only [Bool.and_eq_true, decide_eq_true_eq] at ho
  obtain ⟨q, hq⟩ := List.getElem?_of_mem (zget_mem hl)
  exact lv_iinc C.1 C.2.1 hd h4 hq (Int32.ofInt_add _ _).symm ho.2 rfl (fun ls' hl' => k C H locs ls' h1 h2 h3 (zput_has1 hl' ho.1.1 ho.1.2 hL))
/-! the stack -/
theorem g_dup {v : Value} (hd : decode M.1 pc = .ok (.dup, 1)) (hv : v.category = 1) (k : Go G X M κ n sh σ (pc + 1) L (v :: v :: st) post) : Go G X M κ n sh σ pc L (v :: st) post := fun C H locs ls h1 h2 h3 h4 => lv_dup C.1 C.2.1 hd hv (k C H locs ls h1 h2 h3 h4)
theorem g_dup2 {v w : Value} (hd : decode M.1 pc = .ok (.dup2, 1)) (hv : v.category = 1) (hw : w.category = 1) (k : Go G X M κ n sh σ (pc + 1) L (v :: w :: v :: w :: st) post) : Go G X M κ n sh σ pc L (v :: w :: st) post := fun C H locs ls h1 h2 h3 h4 => lv_dup2_11 C.1 C.2.1 hd hv hw (k C H locs ls h1 h2 h3 h4)
theorem g_pop {v : Value} (hd : decode M.1 pc = .ok (.pop, 1)) (hv : v.category = 1) (k : Go G X M κ n sh σ (pc + 1) L st post) : Go G X M κ n sh σ pc L (v :: st) post := fun C H locs ls h1 h2 h3 h4 => lv_pop C.1 C.2.1 hd hv (k C H locs ls h1 h2 h3 h4)
/-! arithmetic -/
theorem g_iadd {a b : Int} (hd : decode M.1 pc = .ok (.iadd, 1)) (k : Go G X M κ n sh σ (pc + 1) L (vi (a + b) :: st) post) : Go G X M κ n sh σ pc L (vi b :: vi a :: st) post := fun C H locs ls h1 h2 h3 h4 => lv_iadd C.1 C.2.1 hd (by rw [← Int32.ofInt_add]; exact k C H locs ls h1 h2 h3 h4)
theorem g_isub {a b : Int} (hd : decode M.1 pc = .ok (.isub, 1)) (k : Go G X M κ n sh σ (pc + 1) L (vi (a - b) :: st) post) : Go G X M κ n sh σ pc L (vi b :: vi a :: st) post := fun C H locs ls h1 h2 h3 h4 => lv_isub C.1 C.2.1 hd (by rw [← Int32.ofInt_sub]; exact k C H locs ls h1 h2 h3 h4)
theorem g_imul {a b : Int} (hd : decode M.1 pc = .ok (.imul, 1)) (k : Go G X M κ n sh σ (pc + 1) L (vi (a * b) :: st) post) : Go G X M κ n sh σ pc L (vi b :: vi a :: st) post := fun C H locs ls h1 h2 h3 h4 => lv_imul C.1 C.2.1 hd (by rw [← Int32.ofInt_mul]; exact k C H locs ls h1 h2 h3 h4)
theorem g_ladd {a b : Int} (hd : decode M.1 pc = .ok (.ladd, 1)) (k : Go G X M κ n sh σ (pc + 1) L (vl (a + b) :: st) post) : Go G X M κ n sh σ pc L (vl b :: vl a :: st) post := fun C H locs ls h1 h2 h3 h4 => lv_ladd C.1 C.2.1 hd (by rw [← Int64.ofInt_add]; exact k C H locs ls h1 h2 h3 h4)
theorem g_lsub {a b : Int} (hd : decode M.1 pc = .ok (.lsub, 1)) (k : Go G X M κ n sh σ (pc + 1) L (vl (a - b) :: st) post) : Go G X M κ n sh σ pc L (vl b :: vl a :: st) post := fun C H locs ls h1 h2 h3 h4 => lv_lsub C.1 C.2.1 hd (by rw [← Int64.ofInt_sub]; exact k C H locs ls h1 h2 h3 h4)
theorem g_lmul {a b : Int} (hd : decode M.1 pc = .ok (.lmul, 1)) (k : Go G X M κ n sh σ (pc + 1) L (vl (a * b) :: st) post) : Go G X M κ n sh σ pc L (vl b :: vl a :: st) post := fun C H locs ls h1 h2 h3 h4 => lv_lmul C.1 C.2.1 hd (by rw [← Int64.ofInt_mul]; exact k C H locs ls h1 h2 h3 h4)
end GO
