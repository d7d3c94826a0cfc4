/-! THE WORLD AS NUMBERS. All cells from an address on are ours; each has a shape that stays (its class, its references, its length), and its numbers: σ k j is what stands at place j of cell k. -/
/-- an object: its class, its fields (a reference or null, or a type); an array: its kind (0 int, 1 long, 2 byte, 3 boolean, 4 and 5 references), its length, its references -/
abbrev zSh : Type := (Nat × List (Option Nat ⊕ FieldType)) ⊕ (Nat × Nat × (Nat → Option Nat))
abbrev zSt : Type := Nat → Nat → Int
/-- the launch, the first address that is ours, the classes, their slots, the arrays' classes, where the statics lie -/
abbrev zG : Type := Launch × Nat × (Nat → ClassId) × (Nat → Nat → Nat) × (Nat → ClassId) × (Nat → Nat)
/-- a method: its bytes, its class, its locals, what it returns, its name -/
abbrev zM : Type := ByteArray × String × Nat × Option FieldType × String
abbrev zX : Type := Program × Env × State × MethodId × Array Value × List Frame × Method × Code
/-- how deep calls may go; cells and slots made so far; cells and slots that may be made -/
abbrev zK : Type := Nat × Nat × Nat × Nat × Nat
abbrev zPost : Type := Option Value → Nat → (Nat → zSh) → zSt → Prop
def zA (G : zG) : Nat → Prop := fun q => G.2.1 ≤ q
abbrev vi (e : Int) : Value := .int (Int32.ofInt e)
abbrev vl (e : Int) : Value := .long (Int64.ofInt e)
abbrev vr (G : zG) (k : Nat) : Value := .ref (G.2.1 + k)
def zFld (G : zG) (τ : Nat → Int) (j : Nat) (t : Option Nat ⊕ FieldType) : Value := match t with
  | .inl none => .null
  | .inl (some k) => vr G k
  | .inr .long => vl (τ j)
  | .inr _ => vi (τ j)
def zE (G : zG) (h : zSh) (τ : Nat → Int) : va_E := match h with
  | .inl o => .inr (o.1, o.2.mapIdx (zFld G τ))
  | .inr a => .inl (G.2.2.2.2.1 a.1, a.2.1, if a.1 = 1 then .inr (.inl (fun i => Int64.ofInt (τ i))) else if a.1 < 4 then .inl (fun i => Int32.ofInt (τ i)) else .inr (.inr (.inr (.inr (fun i => (a.2.2 i).map (fun k => G.2.1 + k))))))
def zW (G : zG) (n : Nat) (sh : Nat → zSh) (σ : zSt) : va_W := (List.range n).map fun k => (G.2.1 + k, zE G (sh k) (σ k))
def zD (G : zG) : va_G := (G.2.2.1, G.2.2.2.1)
def zTy (G : zG) : List (ClassId × FieldType) := [(G.2.2.2.2.1 0, .int), (G.2.2.2.2.1 1, .long), (G.2.2.2.2.1 2, .byte), (G.2.2.2.2.1 3, .boolean), (G.2.2.2.2.1 4, .object "NestedClips$Show"), (G.2.2.2.2.1 5, .object "NestedClips$Moment")]
/-- one function changed at a place -/
def zu {α : Type} (f : Nat → α) (k : Nat) (v : α) : Nat → α := fun j => if j = k then v else f j
/-- one number changed -/
def zs (σ : zSt) (k j : Nat) (v : Int) : zSt := fun a b => if a = k ∧ b = j then v else σ a b
theorem zu_eq {α : Type} (f : Nat → α) (k : Nat) (v : α) : zu f k v k = v := if_pos rfl
theorem zu_ne {α : Type} {f : Nat → α} {k j : Nat} {v : α} (h : j ≠ k) : zu f k v j = f j := if_neg h
theorem zs_eq (σ : zSt) (k j : Nat) (v : Int) : zs σ k j v k j = v := if_pos ⟨rfl, rfl⟩
theorem zs_ne {σ : zSt} {k j a b : Nat} {v : Int} (h : ¬ (a = k ∧ b = j)) : zs σ k j v a b = σ a b := if_neg h
theorem zs_row (σ : zSt) (k j : Nat) (v : Int) : zs σ k j v k = zu (σ k) j v := by
  funext b
  by_cases h : b = j
  · subst h; rw [zs_eq, zu_eq]
  · rw [zs_ne (fun q => h q.2), zu_ne h]
theorem zs_other {σ : zSt} {k j a : Nat} {v : Int} (h : a ≠ k) : zs σ k j v a = σ a := by
  funext b
  exact zs_ne (fun q => h q.1)
/-! the list of cells -/
theorem zW_get {G : zG} {n : Nat} {sh : Nat → zSh} {σ : zSt} {k : Nat} (h : k < n) : (zW G n sh σ)[k]? = some (G.2.1 + k, zE G (sh k) (σ k)) := by
  simp [zW, h]
theorem zW_len (G : zG) (n : Nat) (sh : Nat → zSh) (σ : zSt) : (zW G n sh σ).length = n := by simp [zW]
theorem zW_set {G : zG} {n : Nat} {sh sh' : Nat → zSh} {σ σ' : zSt} {k : Nat} {e : va_E} (h : k < n) (he : e = zE G (sh' k) (σ' k)) (h1 : ∀ i, i ≠ k → sh' i = sh i) (h2 : ∀ i, i ≠ k → σ' i = σ i) : (zW G n sh σ).set k (G.2.1 + k, e) = zW G n sh' σ' := by
  apply List.ext_getElem?
  intro i
  rw [List.getElem?_set, zW_len]
  by_cases hi : k = i
  · subst hi
    rw [if_pos rfl, if_pos h, zW_get h, he]
  · rw [if_neg hi]
    by_cases hn : i < n
    · rw [zW_get hn, zW_get hn, h1 i (fun q => hi q.symm), h2 i (fun q => hi q.symm)]
    · rw [List.getElem?_eq_none (by rw [zW_len]; omega), List.getElem?_eq_none (by rw [zW_len]; omega)]
theorem zW_push {G : zG} {n : Nat} {sh sh' : Nat → zSh} {σ σ' : zSt} {e : va_E} (he : e = zE G (sh' n) (σ' n)) (h1 : ∀ i, i < n → sh' i = sh i) (h2 : ∀ i, i < n → σ' i = σ i) : zW G n sh σ ++ [(G.2.1 + n, e)] = zW G (n + 1) sh' σ' := by
  apply List.ext_getElem?
  intro i
  by_cases hi : i < n
  · rw [List.getElem?_append_left (by rw [zW_len]; exact hi), zW_get hi, zW_get (by omega), h1 i hi, h2 i hi]
  · rw [List.getElem?_append_right (by rw [zW_len]; omega), zW_len]
    by_cases hn : i = n
    · subst hn
      rw [Nat.sub_self, zW_get (by omega), he]; rfl
    · rw [List.getElem?_eq_none (by simp; omega), List.getElem?_eq_none (by rw [zW_len]; omega)]
theorem zW_D (G : zG) (n : Nat) (sh : Nat → zSh) (σ : zSt) : va_D (zA G) (zW G n sh σ) := by
  have lt : ∀ (k : Nat) (q : Nat × va_E), (zW G n sh σ)[k]? = some q → k < n ∧ q.1 = G.2.1 + k := by
    intro k q h
    have hk : k < n := by rw [← zW_len G n sh σ]; exact (List.getElem?_eq_some_iff.mp h).1
    rw [zW_get hk] at h
    cases h
    exact ⟨hk, rfl⟩
  refine ⟨fun i j a b ha hb e => ?_, fun k q h => ?_⟩
  · have := (lt i a ha).2; have := (lt j b hb).2
    omega
  · rw [(lt k q h).2]
    exact Nat.le_add_right _ _
/-! what is fixed in a method -/
def zR (d mc ms : Nat) : Room := { frames := d, cells := mc, slots := ms, locals := 64 * d }
def zTab (i j : Nat) : Int := (([[0, 1, 1, 0, 0, 0, 0, 0, 0], [999, 4, 9, 999, 1, 1, 9, 20, 20], [1, 1, 1, 1, 0, 0, 0, 0, 0], [1093, 364, 121, 40, 13, 4, 1]] : List (List Int)).getD i []).getD j 0
def zTl (i : Nat) : Nat := if i = 3 then 7 else 9
def zTn (i : Nat) : String × String := if i = 0 then ("NestedClips", "MARK_LEAST") else if i = 1 then ("NestedClips", "MARK_MOST") else if i = 2 then ("NestedClips", "TOLD_LEAST") else ("NestedClips$Stretch", "SORT_STEPS")
def zWords : String := "leaf par seq dur rate times cut back hold layer in out at with behind press "
def zBytes : List Int32 := zWords.toList.map (fun c => Int32.ofNat c.toNat)
/-- words that go from a caller to a callee by a row of their own -/
def zNf : List (String × Nat × String × String × String × String) := [("NestedClips$Stage", 93, "NestedClips", "MARK_MOST", "[I", "NestedClips"), ("NestedClips$Show", 73, "NestedClips", "MARK_LEAST", "[I", "NestedClips"), ("NestedClips$Reader", 144, "NestedClips", "TOLD_LEAST", "[I", "NestedClips"), ("NestedClips$Reader", 147, "NestedClips", "MARK_MOST", "[I", "NestedClips")]
def zNm : List (String × Nat × MethodName × String) := [("NestedClips", 9, ⟨"NestedClips$Show", "<init>", "()V"⟩, "NestedClips"), ("NestedClips", 21, ⟨"NestedClips$Layout", "<init>", "()V"⟩, "NestedClips"), ("NestedClips$Stage", 11, ⟨"NestedClips$Moment", "<init>", "()V"⟩, "NestedClips"), ("NestedClips$Past", 17, ⟨"NestedClips$Show", "<init>", "()V"⟩, "NestedClips"), ("NestedClips", 56, ⟨"NestedClips$Tape", "<init>", "()V"⟩, "NestedClips"), ("NestedClips", 72, ⟨"NestedClips$Reel", "<init>", "()V"⟩, "NestedClips")]
def zS (G : zG) (U : State) (H : Heap) : Prop :=
  (∀ i, i < 4 → va_Z (zTn i).1 (zTn i).2 "[I" (.ref (G.2.2.2.2.2 i)) (zA G) U H ∧ va_T .int (G.2.2.2.2.2 i) (zTl i) (fun j => vi (zTab i j)) (zA G) U H) ∧
  (vk_R "NestedClips$Reader" 185 zWords (G.2.2.2.2.2 4) U ∧ vk_S 1 [zBytes.length] [zBytes] (fun _ => G.2.2.2.2.2 4) (fun _ => G.2.2.2.2.2 5) (zA G) U H) ∧
  (va_Z "java/lang/String" "COMPACT_STRINGS" "Z" (.int 1) (zA G) U H ∧ va_Zq "jdk/internal/util/Preconditions" "SIOOBE_FORMATTER" "Ljava/util/function/BiFunction;" (zA G) U H) ∧
  (∀ q ∈ zNf, va_Nw (.fieldLinkNest q.1 q.2.1 q.2.2.1 q.2.2.2.1 q.2.2.2.2.1 q.2.2.2.2.2) U) ∧ (∀ q ∈ zNm, va_Nw (.methodLinkNest q.1 q.2.1 q.2.2.1 q.2.2.2) U) ∧ va_AO "NestedClips$Show" U ∧ va_AO "NestedClips$Moment" U
theorem zS.moved {G : zG} {s U : State} {H H1 : Heap} (h : zS G s H) (hW : s.WarmedH U.vm) (hq : ∀ a : Nat, a < H.size → ¬ zA G a → H1[a]? = H[a]?) : zS G U H1 := by
  obtain ⟨h1, ⟨h2, h3⟩, ⟨h4, h5⟩, h6, h7, h8, h9⟩ := h
  have hv := hW.alike
  exact ⟨fun i hi => ⟨(va_Z.moved hv (h1 i hi).1).kept hq, (va_T.moved hv (h1 i hi).2).kept hq⟩, ⟨h2.warm hW, (vk_S.moved hv h3).kept hq⟩, ⟨(va_Z.moved hv h4).kept hq, (va_Zq.moved hv h5).kept hq⟩, fun q hq' => va_Nw.warmF hW (h6 q hq'), fun q hq' => va_Nw.warmM hW (h7 q hq'), va_AO.moved hv h8, va_AO.moved hv h9⟩
theorem zS.same {G : zG} {s U : State} {H : Heap} (h : zS G s H) (hv : U.vm = s.vm) : zS G U H := by
  obtain ⟨h1, ⟨h2, h3⟩, ⟨h4, h5⟩, h6, h7, h8, h9⟩ := h
  have ha : s.vm.Alike U.vm := by rw [hv]; exact Vm.Alike.refl _
  exact ⟨fun i hi => ⟨va_Z.moved ha (h1 i hi).1, va_T.moved ha (h1 i hi).2⟩, ⟨h2.same hv, vk_S.moved ha h3⟩, ⟨va_Z.moved ha h4, va_Zq.moved ha h5⟩, fun q hq' => va_Nw.same rfl hv.symm (h6 q hq'), fun q hq' => va_Nw.same rfl hv.symm (h7 q hq'), va_AO.moved ha h8, va_AO.moved ha h9⟩
/-- the world of a state -/
def zWd (G : zG) (n : Nat) (sh : Nat → zSh) (σ : zSt) (U : State) : Prop := U.heap.size = G.2.1 + n ∧ va_P (zD G) zcl (zW G n sh σ) U.heap ∧ va_K (zD G) zcl (zTy G) U ∧ zS G U U.heap
/-- a method's end -/
def zQ (G : zG) (post : zPost) : Array Value → State → Outcome → State → Prop := fun _ st oc t =>
  (∃ (r : Option Value) (n : Nat) (sh : Nat → zSh) (σ : zSt), oc = .returned r ∧ post r n sh σ ∧ t.heap.size = G.2.1 + n ∧ va_P (zD G) zcl (zW G n sh σ) t.heap) ∧ va_F (zA G) st t
def zws (y : MethodName) (M : zM) : List Cond := .code y M.1 M.2.2.1 M.2.2.2.1 :: zT
/-- THE CONTRACT of a method: from the world σ it ends, with 'post' of its answer and the world behind it; calls go at most d deep, at most mc cells of ms slots are made -/
def Gm (G : zG) (y : MethodName) (M : zM) (d mc ms : Nat) (av : List Value) (n : Nat) (sh : Nat → zSh) (σ : zSt) (post : zPost) : Prop :=
  Met G.1 y (zws y M) (zR d mc ms) (va_Pc av (zWd G n sh σ)) (zQ G post) mc ms (zA G)
def zCx (G : zG) (X : zX) (M : zM) (κ : zK) : Prop :=
  X.1.tables.exec = Jvm.exec ∧ X.2.2.2.2.2.2.2.code = M.1 ∧ X.2.2.2.2.2.2.2.maxLocals = M.2.2.1 ∧ X.2.2.1.vm.findClass M.2.1 = some X.2.2.2.1.cls ∧ (∀ w ∈ zT, w.before X.2.2.2.2.1 X.2.2.1 = true) ∧
  X.2.2.2.2.2.2.1.sig.returnType = M.2.2.2.1 ∧ X.2.2.2.2.2.2.1.locks = false ∧ X.2.2.2.2.2.2.1.name = M.2.2.2.2 ∧ va_K (zD G) zcl (zTy G) X.2.2.1 ∧ zS G X.2.2.1 X.2.2.1.heap ∧ G.2.1 ≤ X.2.2.1.heap.size
/-- THE JUDGEMENT within a method: at pc, with these locals and this stack, in the world σ, it comes to an end with 'post' -/
def Go (G : zG) (X : zX) (M : zM) (κ : zK) (n : Nat) (sh : Nat → zSh) (σ : zSt) (pc : Nat) (L : List (Nat × Value)) (st : List Value) (post : zPost) : Prop :=
  zCx G X M κ → ∀ (H : Heap) (locs : List Loc) (ls : Array Slot), X.2.2.1.heap.size + κ.2.1 = G.2.1 + n → va_P (zD G) zcl (zW G n sh σ) H → va_S (zA G) X.2.2.1.heap H locs → lv_has ls M.2.2.1 L →
    W X.1 G.1 X.2.1 (zR κ.1 κ.2.2.2.1 κ.2.2.2.2) X.2.2.1 X.2.2.2.1 X.2.2.2.2.1 X.2.2.2.2.2.1 X.2.2.2.2.2.2.1 X.2.2.2.2.2.2.2 H locs κ.2.1 κ.2.2.1 (MQ X.2.2.2.2.2.1 (zQ G post) X.2.2.2.2.1 X.2.2.1 κ.2.2.2.1 κ.2.2.2.2 (zA G)) (F0 X.2.2.2.1 pc ls st)
/-- the heap's size is known: what the method has made lies behind what was there -/
theorem z_size {G : zG} {n : Nat} {sh : Nat → zSh} {σ : zSt} {p : Program} {l : Launch} {e : Env} {R : Room} {s : State} {m : MethodId} {args : Array Value} {below : List Frame} {meth : Method} {c : Code} {T : State} {H : Heap} {locs : List Loc} {cells slots : Nat} (h1 : s.heap.size + cells = G.2.1 + n) (h2 : va_P (zD G) zcl (zW G n sh σ) H) (h3 : va_S (zA G) s.heap H locs) (hz : G.2.1 ≤ s.heap.size) (hT : T.heap = H) (Xs : Stand p l e R s m args below meth c T locs cells slots) : H.size = G.2.1 + n := by
  have a := Xs.heapSize
  rw [hT] at a
  cases n with
  | zero =>
    have := h3.1
    omega
  | succ k =>
    have b := (h2 k _ (zW_get (Nat.lt_succ_self k))).lt
    dsimp only at b
    omega
