/-! RETURNS, CALLS, A METHOD'S BEGINNING -/
theorem zT_in : ∀ w ∈ zT, goodWord w = true := fun _ h => (List.mem_filter.mp h).2
/-- a callee: its words -/
def zCal (y : MethodName) (M : zM) (na : Nat) : Prop := Cond.code y M.1 M.2.2.1 M.2.2.2.1 ∈ zT ∧ Cond.initialized y.cls ∈ zT ∧ (y.cls ≠ "java/lang/invoke/MethodHandle" ∧ y.cls ≠ "java/lang/invoke/VarHandle" ∧ (parseMethodDescriptor y.desc).map (fun d => d.parameters.length) = some na) ∧ M.2.2.1 ≤ 45
def zCalV (y : MethodName) (M : zM) (na : Nat) : Prop := zCal y M na ∧ Cond.instanceMethod y ∈ zT ∧ Cond.selects y.cls y y ∈ zT
def zCalS (y : MethodName) (M : zM) (na : Nat) : Prop := zCal y M na ∧ Cond.static y ∈ zT
def zCalI (y : MethodName) (M : zM) (na : Nat) : Prop := zCal y M na ∧ Cond.instanceMethod y ∈ zT ∧ y.name = "<init>" ∧ M.2.2.2.1 = none
theorem zws_good {y : MethodName} {M : zM} (h : Cond.code y M.1 M.2.2.1 M.2.2.2.1 ∈ zT) : GoodIn zT (zws y M) := by
  intro w hw
  rcases List.mem_cons.mp hw with e | e
  · subst e
    exact ⟨h, good_of_word (zT_in _ h)⟩
  · exact ⟨e, good_of_word (zT_in _ e)⟩
theorem zWd_blind (G : zG) (n : Nat) (sh : Nat → zSh) (σ : zSt) (av : List Value) : FrameBlind (va_Pc av (zWd G n sh σ)) := by
  intro a U g mk h
  obtain ⟨h0, h1, h2, h3, h4⟩ := h
  exact ⟨h0, h1, h2, va_K.moved (u := U) (U := U.calling g mk a) (Vm.Alike.refl U.vm) h3, h4.same rfl⟩
section GO
variable {G : zG} {X : zX} {M : zM} {κ : zK} {n : Nat} {sh : Nat → zSh} {σ : zSt} {pc : Nat} {L L' : List (Nat × Value)} {st : List Value} {post : zPost}
theorem zQ_of {C : zCx G X M κ} {H : Heap} {locs : List Loc} {r : Option Value} (hsz : H.size = G.2.1 + n) (h2 : va_P (zD G) zcl (zW G n sh σ) H) (h3 : va_S (zA G) X.2.2.1.heap H locs) (hp : post r n sh σ) : ∀ t : State, t.heap = H → X.2.2.1.WarmedH t.vm → zQ G post X.2.2.2.2.1 X.2.2.1 (.returned r) t := fun t ht _ => ⟨⟨r, n, sh, σ, rfl, hp, by rw [ht]; exact hsz, by rw [ht]; exact h2⟩, h3.F ht⟩
theorem g_iret {a : Int} {ty : FieldType} (hd : decode M.1 pc = .ok (.ireturn, 1)) (hr : M.2.2.2.1 = some ty) (hty : ty = .int ∨ ty = .boolean ∧ (a = 0 ∨ a = 1)) (hκ : κ.2.1 ≤ κ.2.2.2.1 ∧ κ.2.2.1 ≤ κ.2.2.2.2) (hp : post (some (vi a)) n sh σ) : Go G X M κ n sh σ pc L [vi a] post := fun C H locs ls h1 h2 h3 h4 => by
  intro T hT Xs
  have hsz := z_size h1 h2 h3 C.2.2.2.2.2.2.2.2.2.2 hT Xs
  exact W.widen hκ.1 hκ.2 (W.zret (ty := ty) C.1 C.2.1 (by rw [C.2.2.2.2.2.1, hr]) (zi_nar hty) (zQ_of (C := C) hsz h2 h3 hp) h3.2.2 hd (hlocks := C.2.2.2.2.2.2.1)) T hT Xs
theorem g_lret {a : Int} (hd : decode M.1 pc = .ok (.lreturn, 1)) (hr : M.2.2.2.1 = some .long) (hκ : κ.2.1 ≤ κ.2.2.2.1 ∧ κ.2.2.1 ≤ κ.2.2.2.2) (hp : post (some (vl a)) n sh σ) : Go G X M κ n sh σ pc L [vl a] post := fun C H locs ls h1 h2 h3 h4 => by
  intro T hT Xs
  have hsz := z_size h1 h2 h3 C.2.2.2.2.2.2.2.2.2.2 hT Xs
  exact W.widen hκ.1 hκ.2 (W.lret C.1 C.2.1 (by rw [C.2.2.2.2.2.1, hr]) (zQ_of (C := C) hsz h2 h3 hp) h3.2.2 hd (hlocks := C.2.2.2.2.2.2.1)) T hT Xs
theorem g_ret (hd : decode M.1 pc = .ok (.return_, 1)) (hr : M.2.2.2.1 = none) (hκ : κ.2.1 ≤ κ.2.2.2.1 ∧ κ.2.2.1 ≤ κ.2.2.2.2) (hp : post none n sh σ) : Go G X M κ n sh σ pc L [] post := fun C H locs ls h1 h2 h3 h4 => by
  intro T hT Xs
  have hsz := z_size h1 h2 h3 C.2.2.2.2.2.2.2.2.2.2 hT Xs
  exact W.widen hκ.1 hκ.2 (W.vret C.1 C.2.1 (by rw [C.2.2.2.2.2.1, hr]) (zQ_of (C := C) hsz h2 h3 hp) h3.2.2 hd (hlocks := C.2.2.2.2.2.2.1)) T hT Xs
theorem g_aret {a : Nat} {cn : String} (hd : decode M.1 pc = .ok (.areturn, 1)) (hr : M.2.2.2.1 = some (.object cn)) (hκ : κ.2.1 ≤ κ.2.2.2.1 ∧ κ.2.2.1 ≤ κ.2.2.2.2) (hp : post (some (.ref a)) n sh σ) : Go G X M κ n sh σ pc L [.ref a] post := fun C H locs ls h1 h2 h3 h4 => by
  intro T hT Xs
  have hsz := z_size h1 h2 h3 C.2.2.2.2.2.2.2.2.2.2 hT Xs
  exact W.widen hκ.1 hκ.2 (W.aret (rt := .object cn) C.1 C.2.1 (by rw [C.2.2.2.2.2.1, hr]) (Or.inl ⟨cn, rfl⟩) (Or.inr ⟨a, rfl⟩) (zQ_of (C := C) hsz h2 h3 hp) h3.2.2 hd (hlocks := C.2.2.2.2.2.2.1)) T hT Xs
/-- what a call's run gives -/
theorem g_run {mc ms : Nat} {post' : zPost} {a : Array Value} {st0 : List Value} (hr : zCx G X M κ → ∀ (H : Heap) (locs : List Loc) (ls : Array Slot), X.2.2.1.heap.size + κ.2.1 = G.2.1 + n → va_P (zD G) zcl (zW G n sh σ) H → va_S (zA G) X.2.2.1.heap H locs → lv_has ls M.2.2.1 L →
      va_Run X.1 G.1 X.2.1 (zR κ.1 κ.2.2.2.1 κ.2.2.2.2) X.2.2.1 X.2.2.2.1 X.2.2.2.2.1 X.2.2.2.2.2.1 X.2.2.2.2.2.2.1 X.2.2.2.2.2.2.2 H locs κ.2.1 κ.2.2.1 mc ms (F0 X.2.2.2.1 pc ls st0) st (zQ G post' a) (zA G))
    (kk : ∀ (r : Option Value) (n' : Nat) (sh' : Nat → zSh) (σ' : zSt), post' r n' sh' σ' → n' = n + mc ∧ Go G X M (κ.1, κ.2.1 + mc, κ.2.2.1 + ms, κ.2.2.2.1, κ.2.2.2.2) n' sh' σ' (pc + 3) L (r.toList ++ st) post) : Go G X M κ n sh σ pc L st0 post := fun C H locs ls h1 h2 h3 h4 => by
  intro T hT Xs
  obtain ⟨v, st₀, t, T', Lx, e0, X', hL, e1, e2, ⟨⟨r, n', sh', σ', hv, hp, hz, hP⟩, hF⟩, stp⟩ := hr C H locs ls h1 h2 h3 h4 T hT Xs
  cases hv
  obtain ⟨hn, hk⟩ := kk v n' sh' σ' hp
  have hF1 : H.size ≤ t.heap.size := by rw [← e0]; exact hF.1
  have hF2 : ∀ q : Nat, q < H.size → ¬ zA G q → t.heap[q]? = H[q]? := by rw [← e0]; exact fun q a b => hF.2 q a b
  obtain ⟨t2, a1, b1⟩ := hk C T'.heap (locs ++ Lx) ls (by show _ + (κ.2.1 + mc) = _; omega) (by rw [e1]; exact hP) ⟨Nat.le_trans h3.1 (by rw [e1]; exact hF1), fun q g1 g2 => by
      rw [e1, hF2 q (Nat.lt_of_lt_of_le g1 h3.1) g2]
      exact h3.2.1 q g1 g2, fun q hq => by
      rcases List.mem_append.mp hq with h | h
      · exact h3.2.2 q h
      · exact hL q h⟩ h4 T' rfl X'
  exact ⟨t2, stp t2 a1, b1⟩
theorem zPre {av : List Value} (C : zCx G X M κ) {H : Heap} {locs : List Loc} (hsz : H.size = G.2.1 + n) (h2 : va_P (zD G) zcl (zW G n sh σ) H) (h3 : va_S (zA G) X.2.2.1.heap H locs) : ∀ U : State, U.heap = H → X.2.2.1.WarmedH U.vm → va_Pc av (zWd G n sh σ) av.toArray U := fun U hU hW =>
  ⟨rfl, by rw [hU]; exact hsz, by rw [hU]; exact h2, va_K.moved hW.alike C.2.2.2.2.2.2.2.2.1, by rw [hU]; exact C.2.2.2.2.2.2.2.2.2.1.moved hW h3.2.1⟩
/-- a call of a method of an object -/
theorem g_callV {y : MethodName} {M' : zM} {d mc ms na k ci x : Nat} {fl : List (Option Nat ⊕ FieldType)} {As : List Value} {post' : zPost} {st0 : List Value} (hm : Gm G y M' d mc ms (vr G k :: As) n sh σ post') (hy : zCalV y M' na) (hl : Cond.methodLink M.2.1 x y ∈ zT) (hd : decode M.1 pc = .ok (.invokevirtual x, 3)) (hk : k < n) (hs : sh k = .inl (ci, fl)) (hc : (zcl[ci]?).map (·.1) = some y.cls) (hn : As.length = na) (hst : st0 = As.reverse ++ vr G k :: st) (hw : (st.map fun v => v.category).sum ≤ 8) (hR : d + 1 ≤ κ.1) (hmc : κ.2.1 + mc ≤ κ.2.2.2.1 ∧ κ.2.2.1 + ms ≤ κ.2.2.2.2)
    (kk : ∀ (r : Option Value) (n' : Nat) (sh' : Nat → zSh) (σ' : zSt), post' r n' sh' σ' → n' = n + mc ∧ Go G X M (κ.1, κ.2.1 + mc, κ.2.2.1 + ms, κ.2.2.2.1, κ.2.2.2.2) n' sh' σ' (pc + 3) L (r.toList ++ st) post) : Go G X M κ n sh σ pc L st0 post := by
  refine g_run (a := (vr G k :: As).toArray) (mc := mc) (ms := ms) (post' := post') (fun C H locs ls h1 h2 h3 h4 => ?_) kk
  intro T hT Xs
  have hsz := z_size h1 h2 h3 C.2.2.2.2.2.2.2.2.2.2 hT Xs
  obtain ⟨⟨hcode, hini, hdd, hml⟩, hinst, hsel⟩ := hy
  have hts := C.2.2.2.2.1
  obtain ⟨q, hq, hq1⟩ : ∃ q, zcl[ci]? = some q ∧ q.1 = y.cls := by
    cases hz : zcl[ci]? with
    | none => rw [hz] at hc; cases hc
    | some q => rw [hz] at hc; exact ⟨q, rfl, Option.some.inj hc⟩
  have cw : CallW (zR κ.1 κ.2.2.2.1 κ.2.2.2.2) X.2.2.1 X.2.2.2.2.1 M.2.1 y.cls x y M'.1 M'.2.2.1 M'.2.2.2.1 (zws y M') (zR d mc ms) mc ms na :=
    ⟨callB_of na hts (zws_good hcode) rfl rfl rfl (hts _ hini) (hts _ hl) hdd ⟨hR, by show 8 + (M'.2.2.1 + 11) + 64 * d ≤ 64 * κ.1; omega⟩, hts _ hinst, hts _ hsel⟩
  have hrecv := va_recv C.2.2.2.2.2.2.2.2.1 h2 hq (q0 := k) (a := G.2.1 + k) (fs := fl.mapIdx (zFld G (σ k))) (by rw [zW_get hk, hs]; rfl)
  rw [hq1] at hrecv
  exact va_runV ⟨C.1, C.2.1, C.2.2.1, C.2.2.2.1, hts⟩ hm cw ⟨zWd_blind G n sh σ _, hrecv, zPre C hsz h2 h3⟩ rfl hn h4.1 hst (lv_room hw) hd ⟨hmc.1, hmc.2⟩ T hT Xs
/-- a call of a static method -/
theorem g_callS {y : MethodName} {M' : zM} {d mc ms na x : Nat} {As : List Value} {post' : zPost} {st0 : List Value} (hm : Gm G y M' d mc ms As n sh σ post') (hy : zCalS y M' na) (hl : Cond.methodLink M.2.1 x y ∈ zT) (hd : decode M.1 pc = .ok (.invokestatic x, 3)) (hn : As.length = na) (hst : st0 = As.reverse ++ st) (hw : (st.map fun v => v.category).sum ≤ 8) (hR : d + 1 ≤ κ.1) (hmc : κ.2.1 + mc ≤ κ.2.2.2.1 ∧ κ.2.2.1 + ms ≤ κ.2.2.2.2)
    (kk : ∀ (r : Option Value) (n' : Nat) (sh' : Nat → zSh) (σ' : zSt), post' r n' sh' σ' → n' = n + mc ∧ Go G X M (κ.1, κ.2.1 + mc, κ.2.2.1 + ms, κ.2.2.2.1, κ.2.2.2.2) n' sh' σ' (pc + 3) L (r.toList ++ st) post) : Go G X M κ n sh σ pc L st0 post := by
  refine g_run (a := As.toArray) (mc := mc) (ms := ms) (post' := post') (fun C H locs ls h1 h2 h3 h4 => ?_) kk
  intro T hT Xs
  have hsz := z_size h1 h2 h3 C.2.2.2.2.2.2.2.2.2.2 hT Xs
  obtain ⟨⟨hcode, hini, hdd, hml⟩, hstat⟩ := hy
  have hts := C.2.2.2.2.1
  have cw : CallB (zR κ.1 κ.2.2.2.1 κ.2.2.2.2) X.2.2.1 X.2.2.2.2.1 M.2.1 x y M'.1 M'.2.2.1 M'.2.2.2.1 (zws y M') (zR d mc ms) mc ms na ∧ (Cond.static y).before X.2.2.2.2.1 X.2.2.1 = true := ⟨callB_of na hts (zws_good hcode) rfl rfl rfl (hts _ hini) (hts _ hl) hdd ⟨hR, by show 8 + (M'.2.2.1 + 11) + 64 * d ≤ 64 * κ.1; omega⟩, hts _ hstat⟩
  exact va_runS ⟨C.1, C.2.1, C.2.2.1, C.2.2.2.1, hts⟩ hm cw ⟨zWd_blind G n sh σ _, zPre C hsz h2 h3⟩ rfl hn h4.1 hst (lv_room hw) hd ⟨hmc.1, hmc.2⟩ T hT Xs
end GO
/-- A METHOD'S CONTRACT out of its body -/
theorem g_enter {G : zG} {y : MethodName} {M : zM} {d mc ms : Nat} {av : List Value} {n : Nat} {sh : Nat → zSh} {σ : zSt} {post : zPost} {L : List (Nat × Value)} (hp : plainName y.cls = true) (hc : M.2.1 = y.cls) (hn : M.2.2.2.2 = y.name) (hL : lv_args 0 av = L) (hl : (lg_sl av).length ≤ M.2.2.1)
    (body : ∀ X : zX, Go G X M (d, 0, 0, mc, ms) n sh σ 0 L [] post) : Gm G y M d mc ms av n sh σ post := by
  refine Met.ofW (cc := M.1) (maxL := M.2.2.1) (ret := M.2.2.2.1) hp rfl ?_
  intro p e s m args below meth c s₁ B hml hv
  obtain ⟨rfl, h0, h1, h2, h3⟩ := hv
  have hts := atoms_spec (ws := zws y M) B.pre
  have hent := lv_entry av (n := M.2.2.1) hl
  rw [lg_entry_eq]
  rw [hL] at hent
  exact body (p, e, s, m, av.toArray, below, meth, c) ⟨B.exec, B.bytes, hml, by rw [hc]; exact findClass_of_methodNamed B.named, fun w hw => hts w (List.mem_cons_of_mem _ hw), B.returns, B.notSynchronized, by rw [hn]; exact (name_of_methodNamed B.named B.method).1, h2, h3, by show G.2.1 ≤ s.heap.size; omega⟩ s.heap [] _ (by show s.heap.size + 0 = _; omega) h1 va_S.rf hent
/-- a weaker end -/
theorem Gm.mono {G : zG} {y : MethodName} {M : zM} {d mc ms : Nat} {av : List Value} {n : Nat} {sh : Nat → zSh} {σ : zSt} {post post' : zPost} (h : Gm G y M d mc ms av n sh σ post) (hp : ∀ r n' sh' σ', post r n' sh' σ' → post' r n' sh' σ') : Gm G y M d mc ms av n sh σ post' := by
  intro p e ha hc hk s m args below hf happ hP hK
  obtain ⟨t, o, a1, a2, a3, ⟨⟨⟨r, n', sh', σ', e1, e2, e3⟩, e4⟩, e5⟩⟩ := h p e ha hc hk s m args below hf happ hP hK
  exact ⟨t, o, a1, a2, a3, ⟨⟨⟨r, n', sh', σ', e1, hp _ _ _ _ e2, e3⟩, e4⟩, e5⟩⟩
