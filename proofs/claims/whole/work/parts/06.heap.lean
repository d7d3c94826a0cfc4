/-! FIELDS, ARRAYS, RETURNS, CALLS -/
/-- a class of the list, and what the tables say of its fields -/
def zFO (ci : Nat) (C : String) (T : u_T) (N : Nat) (ty : Nat → FieldType) : Prop := zcl[ci]? = some (C, T, N) ∧ (∀ w ∈ u_ws C T N, w ∈ zT) ∧ (∀ k, k < N → parseFieldDescriptor (T k).2.2.1 = some (ty k)) ∧ ∀ a, a < N → ∀ b, b < N → a ≠ b → (T a).2.1 ≠ (T b).2.1
/-- entry x of own's pool is field j of class ci -/
def zFL (own : String) (x ci j : Nat) (fin : Bool) (t : FieldType) : Prop := ∃ (C : String) (T : u_T) (N : Nat) (ty : Nat → FieldType), zFO ci C T N ty ∧ j < N ∧ Cond.fieldLink own x (T j).1 (T j).2.1 (T j).2.2.1 ∈ zT ∧ (T j).2.2.2 = fin ∧ ty j = t ∧ (T j).1 = C
theorem zFld_other {G : zG} {τ : Nat → Int} {j i : Nat} {a : Int} (t : Option Nat ⊕ FieldType) (h : i ≠ j) : zFld G (zu τ j a) i t = zFld G τ i t := by
  unfold zFld
  rw [zu_ne h]
theorem zE_set {G : zG} {fl : List (Option Nat ⊕ FieldType)} {τ : Nat → Int} {j : Nat} {a : Int} {t : Option Nat ⊕ FieldType} {v : Value} (hj : fl[j]? = some t) (hv : zFld G (zu τ j a) j t = v) : (fl.mapIdx (zFld G τ)).set j v = fl.mapIdx (zFld G (zu τ j a)) := by
  apply List.ext_getElem?
  intro i
  rw [List.getElem?_set, List.length_mapIdx, List.getElem?_mapIdx, List.getElem?_mapIdx]
  by_cases hi : j = i
  · subst hi
    rw [if_pos rfl, if_pos (List.getElem?_eq_some_iff.mp hj).1, hj, Option.map_some, hv]
  · rw [if_neg hi]
    cases fl[i]? with
    | none => rfl
    | some t => rw [Option.map_some, Option.map_some, zFld_other t (fun e => hi e.symm)]
theorem zi_narB {a : Int} (h : -128 ≤ a ∧ a ≤ 127) : vp_nar .byte (Int32.ofInt a) = Int32.ofInt a := by
  rw [vp_nar_byte, ← Int32.toInt_inj, Int8.toInt_toInt32, Int32.toInt_toInt8, zi_toInt ⟨by omega, by omega⟩]
  exact Int.bmod_eq_of_le (by omega) (by omega)
theorem zi_narZ {a : Int} (h : a = 0 ∨ a = 1) : vp_nar .boolean (Int32.ofInt a) = Int32.ofInt a := by
  rcases h with rfl | rfl <;> rfl
theorem zi_b (a : Int) : (Int32.ofInt a).toInt8.toInt32 = Int32.ofInt (a.bmod 256) := by
  have h1 := Int.le_bmod (x := a) (m := 256) (by decide)
  have h2 := Int.bmod_lt (x := a) (m := 256) (by decide)
  rw [← Int32.toInt_inj, Int8.toInt_toInt32, Int32.toInt_toInt8, Int32.toInt_ofInt, zi_toInt ⟨by omega, by omega⟩]
  first | exact Int.bmod_bmod_of_dvd (by decide) | simp
section GO
variable {G : zG} {X : zX} {M : zM} {κ : zK} {n : Nat} {sh : Nat → zSh} {σ : zSt} {pc : Nat} {L L' : List (Nat × Value)} {st : List Value} {post : zPost}
theorem g_get {x ci j k : Nat} {fin : Bool} {ty : FieldType} {fl : List (Option Nat ⊕ FieldType)} {t : Option Nat ⊕ FieldType} (hf : zFL M.2.1 x ci j fin ty) (hd : decode M.1 pc = .ok (.getfield x, 3)) (hk : k < n) (hs : sh k = .inl (ci, fl)) (hj : fl[j]? = some t) (kk : Go G X M κ n sh σ (pc + 3) L (zFld G (σ k) j t :: st) post) : Go G X M κ n sh σ pc L (vr G k :: st) post := fun C H locs ls h1 h2 h3 h4 => by
  obtain ⟨CC, T, N, tyf, ⟨f1, f2, f3, f4⟩, hN, hlk, -, -, -⟩ := hf
  exact va_get (D := zD G) (ci := ci) (v := zFld G (σ k) j t) C.1 C.2.1 C.2.2.2.2.1 f2 C.2.2.2.1 C.2.2.2.2.2.2.2.2.1 h2 k (by rw [zW_get hk, hs]; rfl) f1 j hN (C.2.2.2.2.1 _ hlk) (fun _ h9 => h9) (by rw [List.getElem?_mapIdx, hj]; rfl) hd (kk C H locs ls h1 h2 h3 h4)
theorem g_geti {x ci j k : Nat} {fin : Bool} {ty : FieldType} {fl : List (Option Nat ⊕ FieldType)} (hf : zFL M.2.1 x ci j fin ty) (hd : decode M.1 pc = .ok (.getfield x, 3)) (hk : k < n) (hs : sh k = .inl (ci, fl)) (hj : fl[j]? = some (.inr .int)) (kk : Go G X M κ n sh σ (pc + 3) L (vi (σ k j) :: st) post) : Go G X M κ n sh σ pc L (vr G k :: st) post := g_get hf hd hk hs hj kk
theorem g_getl {x ci j k : Nat} {fin : Bool} {ty : FieldType} {fl : List (Option Nat ⊕ FieldType)} (hf : zFL M.2.1 x ci j fin ty) (hd : decode M.1 pc = .ok (.getfield x, 3)) (hk : k < n) (hs : sh k = .inl (ci, fl)) (hj : fl[j]? = some (.inr .long)) (kk : Go G X M κ n sh σ (pc + 3) L (vl (σ k j) :: st) post) : Go G X M κ n sh σ pc L (vr G k :: st) post := g_get hf hd hk hs hj kk
theorem g_getr {x ci j k q : Nat} {fin : Bool} {ty : FieldType} {fl : List (Option Nat ⊕ FieldType)} (hf : zFL M.2.1 x ci j fin ty) (hd : decode M.1 pc = .ok (.getfield x, 3)) (hk : k < n) (hs : sh k = .inl (ci, fl)) (hj : fl[j]? = some (.inl (some q))) (kk : Go G X M κ n sh σ (pc + 3) L (vr G q :: st) post) : Go G X M κ n sh σ pc L (vr G k :: st) post := g_get hf hd hk hs hj kk
/-- a number into a field that isn't final -/
theorem g_put {x ci j k : Nat} {ty : FieldType} {fl : List (Option Nat ⊕ FieldType)} {t : Option Nat ⊕ FieldType} {a : Int} {v : Value} (hf : zFL M.2.1 x ci j false ty) (hd : decode M.1 pc = .ok (.putfield x, 3)) (hk : k < n) (hs : sh k = .inl (ci, fl)) (hj : fl[j]? = some t) (hv : zFld G (zu (σ k) j a) j t = v) (hn : narrow ty v = v) (hfit : fits ty v = true) (kk : Go G X M κ n sh (zs σ k j a) (pc + 3) L st post) : Go G X M κ n sh σ pc L (v :: vr G k :: st) post := fun C H locs ls h1 h2 h3 h4 => by
  obtain ⟨CC, T, N, tyf, ⟨f1, f2, f3, f4⟩, hN, hlk, hfin, hty, -⟩ := hf
  have hD := zW_D G n sh σ
  have hj' : j < (fl.mapIdx (zFld G (σ k))).length := by rw [List.length_mapIdx]; exact (List.getElem?_eq_some_iff.mp hj).1
  refine va_put (D := zD G) (ci := ci) (v := v) (ty := ty) C.1 C.2.1 C.2.2.2.2.1 f2 tyf f3 f4 C.2.2.2.1 C.2.2.2.2.2.2.2.2.1 h2 hD h3 k (fs := fl.mapIdx (zFld G (σ k))) (by rw [zW_get hk, hs]; rfl) f1 j hN (C.2.2.2.2.1 _ hlk) (fun _ h9 => h9) hfin (by rw [f3 j hN, hty]) hn hfit hj' hd (fun H1 locs1 hP hD1 hS1 => ?_)
  have e : (zW G n sh σ).set k (G.2.1 + k, .inr (ci, (fl.mapIdx (zFld G (σ k))).set j v)) = zW G n sh (zs σ k j a) := by
    refine zW_set hk ?_ (fun _ _ => rfl) (fun i hi => zs_other hi)
    rw [hs, zs_row, zE_set hj hv]; rfl
  rw [e] at hP
  exact kk C H1 locs1 ls h1 hP hS1 h4
theorem g_puti {x ci j k : Nat} {fl : List (Option Nat ⊕ FieldType)} {a : Int} (hf : zFL M.2.1 x ci j false .int) (hd : decode M.1 pc = .ok (.putfield x, 3)) (hk : k < n) (hs : sh k = .inl (ci, fl)) (hj : fl[j]? = some (.inr .int)) (kk : Go G X M κ n sh (zs σ k j a) (pc + 3) L st post) : Go G X M κ n sh σ pc L (vi a :: vr G k :: st) post := g_put hf hd hk hs hj (by show vi (zu (σ k) j a j) = vi a; rw [zu_eq]) rfl rfl kk
theorem g_putl {x ci j k : Nat} {fl : List (Option Nat ⊕ FieldType)} {a : Int} (hf : zFL M.2.1 x ci j false .long) (hd : decode M.1 pc = .ok (.putfield x, 3)) (hk : k < n) (hs : sh k = .inl (ci, fl)) (hj : fl[j]? = some (.inr .long)) (kk : Go G X M κ n sh (zs σ k j a) (pc + 3) L st post) : Go G X M κ n sh σ pc L (vl a :: vr G k :: st) post := g_put hf hd hk hs hj (by show vl (zu (σ k) j a j) = vl a; rw [zu_eq]) rfl rfl kk
/-! arrays -/
theorem g_iald {k m j : Nat} {i : Int} {g : Nat → Option Nat} (hd : decode M.1 pc = .ok (.iaload, 1)) (hk : k < n) (hs : sh k = .inr (0, m, g)) (hi : i = (j : Int)) (hj : j < m) (hm : m < 2147483648) (kk : Go G X M κ n sh σ (pc + 1) L (vi (σ k j) :: st) post) : Go G X M κ n sh σ pc L (vi i :: vr G k :: st) post := fun C H locs ls h1 h2 h3 h4 => by
  refine va_iald C.1 C.2.1 C.2.2.2.2.2.2.2.2.1 h2 k 0 (f := fun i => Int32.ofInt (σ k i)) (by rw [zW_get hk, hs]; rfl) rfl (zi_in hi hj hm) hd ?_
  rw [zi_cl hi (by omega)]
  exact kk C H locs ls h1 h2 h3 h4
theorem g_bald {k m j : Nat} {i : Int} {g : Nat → Option Nat} (hd : decode M.1 pc = .ok (.baload, 1)) (hk : k < n) (hs : sh k = .inr (2, m, g)) (hi : i = (j : Int)) (hj : j < m) (hm : m < 2147483648) (kk : Go G X M κ n sh σ (pc + 1) L (vi (σ k j) :: st) post) : Go G X M κ n sh σ pc L (vi i :: vr G k :: st) post := fun C H locs ls h1 h2 h3 h4 => by
  refine va_bald C.1 C.2.1 C.2.2.2.2.2.2.2.2.1 h2 k 2 (f := fun i => Int32.ofInt (σ k i)) (by rw [zW_get hk, hs]; rfl) rfl (zi_in hi hj hm) hd ?_
  rw [zi_cl hi (by omega)]
  exact kk C H locs ls h1 h2 h3 h4
theorem g_zald {k m j : Nat} {i : Int} {g : Nat → Option Nat} (hd : decode M.1 pc = .ok (.baload, 1)) (hk : k < n) (hs : sh k = .inr (3, m, g)) (hi : i = (j : Int)) (hj : j < m) (hm : m < 2147483648) (kk : Go G X M κ n sh σ (pc + 1) L (vi (σ k j) :: st) post) : Go G X M κ n sh σ pc L (vi i :: vr G k :: st) post := fun C H locs ls h1 h2 h3 h4 => by
  refine va_zald C.1 C.2.1 C.2.2.2.2.2.2.2.2.1 h2 k 3 (f := fun i => Int32.ofInt (σ k i)) (by rw [zW_get hk, hs]; rfl) rfl (zi_in hi hj hm) hd ?_
  rw [zi_cl hi (by omega)]
  exact kk C H locs ls h1 h2 h3 h4
theorem g_lald {k m j : Nat} {i : Int} {g : Nat → Option Nat} (hd : decode M.1 pc = .ok (.laload, 1)) (hk : k < n) (hs : sh k = .inr (1, m, g)) (hi : i = (j : Int)) (hj : j < m) (hm : m < 2147483648) (kk : Go G X M κ n sh σ (pc + 1) L (vl (σ k j) :: st) post) : Go G X M κ n sh σ pc L (vi i :: vr G k :: st) post := fun C H locs ls h1 h2 h3 h4 => by
  refine va_lald C.1 C.2.1 C.2.2.2.2.2.2.2.2.1 h2 k 1 (f := fun i => Int64.ofInt (σ k i)) (by rw [zW_get hk, hs]; rfl) rfl (zi_in hi hj hm) hd ?_
  rw [zi_cl hi (by omega)]
  exact kk C H locs ls h1 h2 h3 h4
theorem g_aald {k m j q : Nat} {i : Int} {g : Nat → Option Nat} {t : Nat} {CN : String} (hd : decode M.1 pc = .ok (.aaload, 1)) (hk : k < n) (hs : sh k = .inr (t, m, g)) (ht : t = 4 ∨ t = 5) (hi : i = (j : Int)) (hj : j < m) (hm : m < 2147483648) (hq : g j = some q) (kk : Go G X M κ n sh σ (pc + 1) L (vr G q :: st) post) : Go G X M κ n sh σ pc L (vi i :: vr G k :: st) post := fun C H locs ls h1 h2 h3 h4 => by
  rcases ht with rfl | rfl
  · refine va_aldq C.1 C.2.1 C.2.2.2.2.2.2.2.2.1 h2 k 4 (C := "NestedClips$Show") (f := fun i => (g i).map (fun k => G.2.1 + k)) (by rw [zW_get hk, hs]; rfl) rfl (zi_in hi hj hm) hd ?_
    rw [zi_cl hi (by omega), hq]
    exact kk C H locs ls h1 h2 h3 h4
  · refine va_aldq C.1 C.2.1 C.2.2.2.2.2.2.2.2.1 h2 k 5 (C := "NestedClips$Moment") (f := fun i => (g i).map (fun k => G.2.1 + k)) (by rw [zW_get hk, hs]; rfl) rfl (zi_in hi hj hm) hd ?_
    rw [zi_cl hi (by omega), hq]
    exact kk C H locs ls h1 h2 h3 h4
theorem g_alen {k m t : Nat} {g : Nat → Option Nat} (hd : decode M.1 pc = .ok (.arraylength, 1)) (hk : k < n) (hs : sh k = .inr (t, m, g)) (ht : t < 6) (kk : Go G X M κ n sh σ (pc + 1) L (vi (m : Int) :: st) post) : Go G X M κ n sh σ pc L (vr G k :: st) post := fun C H locs ls h1 h2 h3 h4 => by
  obtain ⟨ty, hty⟩ : ∃ ty, (zTy G)[t]? = some (G.2.2.2.2.1 t, ty) := by
    rcases (by omega : t = 0 ∨ t = 1 ∨ t = 2 ∨ t = 3 ∨ t = 4 ∨ t = 5) with rfl | rfl | rfl | rfl | rfl | rfl <;> exact ⟨_, rfl⟩
  refine va_alen C.1 C.2.1 C.2.2.2.2.2.2.2.2.1 h2 k t (x := (m, _)) (by rw [zW_get hk, hs]; rfl) hty (v := Int32.ofInt (m : Int)) (by rw [zi_nat]; rfl) hd ?_
  exact kk C H locs ls h1 h2 h3 h4
theorem zcell_int {G : zG} {m j : Nat} {g : Nat → Option Nat} {τ : Nat → Int} {a : Int} {t : Nat} (ht : t = 0 ∨ t = 2 ∨ t = 3) : (.inl (G.2.2.2.2.1 t, m, .inl (upd (fun i => Int32.ofInt (τ i)) j (Int32.ofInt a))) : va_E) = zE G (.inr (t, m, g)) (zu τ j a) := by
  have e : upd (fun i => Int32.ofInt (τ i)) j (Int32.ofInt a) = fun i => Int32.ofInt (zu τ j a i) := by
    funext i
    unfold upd zu
    split <;> rfl
  rw [e]
  rcases ht with rfl | rfl | rfl <;> rfl
theorem zcell_long {G : zG} {m j : Nat} {g : Nat → Option Nat} {τ : Nat → Int} {a : Int} : (.inl (G.2.2.2.2.1 1, m, .inr (.inl (vp_updL (fun i => Int64.ofInt (τ i)) j (Int64.ofInt a)))) : va_E) = zE G (.inr (1, m, g)) (zu τ j a) := by
  have e : vp_updL (fun i => Int64.ofInt (τ i)) j (Int64.ofInt a) = fun i => Int64.ofInt (zu τ j a i) := by
    funext i
    unfold vp_updL zu
    split <;> rfl
  rw [e]
  rfl
theorem zW_put {k j : Nat} {a : Int} {e : va_E} (hk : k < n) (he : e = zE G (sh k) (zu (σ k) j a)) : (zW G n sh σ).set k (G.2.1 + k, e) = zW G n sh (zs σ k j a) := zW_set hk (by rw [zs_row]; exact he) (fun _ _ => rfl) (fun i hi => zs_other hi)
theorem g_iast {k m j : Nat} {i a : Int} {g : Nat → Option Nat} (hd : decode M.1 pc = .ok (.iastore, 1)) (hk : k < n) (hs : sh k = .inr (0, m, g)) (hi : i = (j : Int)) (hj : j < m) (hm : m < 2147483648) (kk : Go G X M κ n sh (zs σ k j a) (pc + 1) L st post) : Go G X M κ n sh σ pc L (vi a :: vi i :: vr G k :: st) post := fun C H locs ls h1 h2 h3 h4 => by
  refine va_iast C.1 C.2.1 C.2.2.2.2.2.2.2.2.1 h2 (zW_D G n sh σ) h3 k 0 (f := fun i => Int32.ofInt (σ k i)) (by rw [zW_get hk, hs]; rfl) rfl (zi_in hi hj hm) hd (fun H1 locs1 hP _ hS1 => ?_)
  rw [zi_cl hi (by omega), zW_put hk (by rw [hs]; exact zcell_int (Or.inl rfl))] at hP
  exact kk C H1 locs1 ls h1 hP hS1 h4
theorem g_bast {k m j : Nat} {i a : Int} {g : Nat → Option Nat} (hd : decode M.1 pc = .ok (.bastore, 1)) (hk : k < n) (hs : sh k = .inr (2, m, g)) (hi : i = (j : Int)) (hj : j < m) (hm : m < 2147483648) (ha : -128 ≤ a ∧ a ≤ 127) (kk : Go G X M κ n sh (zs σ k j a) (pc + 1) L st post) : Go G X M κ n sh σ pc L (vi a :: vi i :: vr G k :: st) post := fun C H locs ls h1 h2 h3 h4 => by
  refine va_bast C.1 C.2.1 C.2.2.2.2.2.2.2.2.1 h2 (zW_D G n sh σ) h3 k 2 (f := fun i => Int32.ofInt (σ k i)) (by rw [zW_get hk, hs]; rfl) rfl (zi_in hi hj hm) hd (fun H1 locs1 hP _ hS1 => ?_)
  rw [zi_cl hi (by omega), zi_narB ha, zW_put hk (by rw [hs]; exact zcell_int (Or.inr (Or.inl rfl)))] at hP
  exact kk C H1 locs1 ls h1 hP hS1 h4
theorem g_zast {k m j : Nat} {i a : Int} {g : Nat → Option Nat} (hd : decode M.1 pc = .ok (.bastore, 1)) (hk : k < n) (hs : sh k = .inr (3, m, g)) (hi : i = (j : Int)) (hj : j < m) (hm : m < 2147483648) (ha : a = 0 ∨ a = 1) (kk : Go G X M κ n sh (zs σ k j a) (pc + 1) L st post) : Go G X M κ n sh σ pc L (vi a :: vi i :: vr G k :: st) post := fun C H locs ls h1 h2 h3 h4 => by
  refine va_zast C.1 C.2.1 C.2.2.2.2.2.2.2.2.1 h2 (zW_D G n sh σ) h3 k 3 (f := fun i => Int32.ofInt (σ k i)) (by rw [zW_get hk, hs]; rfl) rfl (zi_in hi hj hm) hd (fun H1 locs1 hP _ hS1 => ?_)
  rw [zi_cl hi (by omega), zi_narZ ha, zW_put hk (by rw [hs]; exact zcell_int (Or.inr (Or.inr rfl)))] at hP
  exact kk C H1 locs1 ls h1 hP hS1 h4
theorem g_last {k m j : Nat} {i a : Int} {g : Nat → Option Nat} (hd : decode M.1 pc = .ok (.lastore, 1)) (hk : k < n) (hs : sh k = .inr (1, m, g)) (hi : i = (j : Int)) (hj : j < m) (hm : m < 2147483648) (kk : Go G X M κ n sh (zs σ k j a) (pc + 1) L st post) : Go G X M κ n sh σ pc L (vl a :: vi i :: vr G k :: st) post := fun C H locs ls h1 h2 h3 h4 => by
  refine va_last C.1 C.2.1 C.2.2.2.2.2.2.2.2.1 h2 (zW_D G n sh σ) h3 k 1 (f := fun i => Int64.ofInt (σ k i)) (by rw [zW_get hk, hs]; rfl) rfl (zi_in hi hj hm) hd (fun H1 locs1 hP _ hS1 => ?_)
  rw [zi_cl hi (by omega), zW_put hk (by rw [hs]; exact zcell_long)] at hP
  exact kk C H1 locs1 ls h1 hP hS1 h4
theorem g_i2b {a : Int} (hd : decode M.1 pc = .ok (.i2b, 1)) (k : Go G X M κ n sh σ (pc + 1) L (vi (a.bmod 256) :: st) post) : Go G X M κ n sh σ pc L (vi a :: st) post := fun C H locs ls h1 h2 h3 h4 => lv_i2b C.1 C.2.1 hd (zi_b a) (k C H locs ls h1 h2 h3 h4)
/-! statics -/
theorem g_gets {x : Nat} (i : Nat) (hi : i < 4) (hd : decode M.1 pc = .ok (.getstatic x, 3)) (hl : Cond.fieldLink M.2.1 x (zTn i).1 (zTn i).2 "[I" ∈ zT) (k : Go G X M κ n sh σ (pc + 3) L (.ref (G.2.2.2.2.2 i) :: st) post) : Go G X M κ n sh σ pc L st post := fun C H locs ls h1 h2 h3 h4 => va_gets C.1 C.2.1 (C.2.2.2.2.2.2.2.2.2.1.1 i hi).1 h3 C.2.2.2.1 (C.2.2.2.2.1 _ hl) (fun _ h9 => h9) hd (k C H locs ls h1 h2 h3 h4)
theorem g_getsN {x : Nat} (i : Nat) (hi : i < 4) (hd : decode M.1 pc = .ok (.getstatic x, 3)) (hl : (M.2.1, x, (zTn i).1, (zTn i).2, "[I", "NestedClips") ∈ zNf) (k : Go G X M κ n sh σ (pc + 3) L (.ref (G.2.2.2.2.2 i) :: st) post) : Go G X M κ n sh σ pc L st post := fun C H locs ls h1 h2 h3 h4 => va_getsN C.1 C.2.1 (C.2.2.2.2.2.2.2.2.2.1.1 i hi).1 h3 C.2.2.2.1 (va_Nw.use rfl (C.2.2.2.2.2.2.2.2.2.1.2.2.2.1 _ hl)) (fun _ h9 => h9) hd (k C H locs ls h1 h2 h3 h4)
theorem g_tald (i : Nat) (hi : i < 4) {j : Nat} {a : Int} (hd : decode M.1 pc = .ok (.iaload, 1)) (ha : a = (j : Int)) (hj : j < zTl i) (k : Go G X M κ n sh σ (pc + 1) L (vi (zTab i j) :: st) post) : Go G X M κ n sh σ pc L (vi a :: .ref (G.2.2.2.2.2 i) :: st) post := fun C H locs ls h1 h2 h3 h4 => by
  have hz : zTl i ≤ 9 := by unfold zTl; split <;> omega
  exact va_ti C.1 C.2.1 (C.2.2.2.2.2.2.2.2.2.1.1 i hi).2 h3 (zi_in ha hj (by omega)) (by rw [zi_cl ha (by omega)]) hd (k C H locs ls h1 h2 h3 h4)
theorem g_tlen (i : Nat) (hi : i < 4) (hd : decode M.1 pc = .ok (.arraylength, 1)) (k : Go G X M κ n sh σ (pc + 1) L (vi (zTl i : Int) :: st) post) : Go G X M κ n sh σ pc L (.ref (G.2.2.2.2.2 i) :: st) post := fun C H locs ls h1 h2 h3 h4 => va_tlen C.1 C.2.1 (C.2.2.2.2.2.2.2.2.2.1.1 i hi).2 h3 (by rw [zi_nat]; rfl) hd (k C H locs ls h1 h2 h3 h4)
end GO
