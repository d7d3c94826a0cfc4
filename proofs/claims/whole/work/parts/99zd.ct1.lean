/-! CONSTRUCTORS -/
section GO
variable {G : zG} {X : zX} {M : zM} {κ κ' : zK} {n n' : Nat} {sh s : Nat → zSh} {σ : zSt} {pc : Nat} {L L' : List (Nat × Value)} {st : List Value} {post : zPost}
theorem g_nwI {N : Nat} {v : Int} (hd : decode M.1 pc = .ok (.newarray .int, 2)) (hv : v = (N : Int)) (hN : N ≤ 10000) (hs : sh n = .inr (0, N, zn)) (hz : σ n = fun _ => 0) (hκ : κ.2.1 + 1 ≤ κ.2.2.2.1 ∧ κ.2.2.1 + N ≤ κ.2.2.2.2) (eκ : (κ.1, κ.2.1 + 1, κ.2.2.1 + N, κ.2.2.2.1, κ.2.2.2.2) = κ') (en : n + 1 = n') (kk : Go G X M κ' n' sh σ (pc + 2) L (vr G n :: st) post) : Go G X M κ n sh σ pc L (vi v :: st) post := by
  subst eκ; subst en
  exact g_newa (a := 0) (t := .int) rfl rfl (fun _ _ h => h) ac_int rfl hd hv hN (by decide) hs hz hκ kk
theorem g_nwJ {N : Nat} {v : Int} (hd : decode M.1 pc = .ok (.newarray .long, 2)) (hv : v = (N : Int)) (hN : N ≤ 10000) (hs : sh n = .inr (1, N, zn)) (hz : σ n = fun _ => 0) (hκ : κ.2.1 + 1 ≤ κ.2.2.2.1 ∧ κ.2.2.1 + N ≤ κ.2.2.2.2) (eκ : (κ.1, κ.2.1 + 1, κ.2.2.1 + N, κ.2.2.2.1, κ.2.2.2.2) = κ') (en : n + 1 = n') (kk : Go G X M κ' n' sh σ (pc + 2) L (vr G n :: st) post) : Go G X M κ n sh σ pc L (vi v :: st) post := by
  subst eκ; subst en
  exact g_newa (a := 1) (t := .long) rfl rfl (fun _ _ h => h) ac_long rfl hd hv hN (by decide) hs hz hκ kk
theorem g_nwB {N : Nat} {v : Int} (hd : decode M.1 pc = .ok (.newarray .byte, 2)) (hv : v = (N : Int)) (hN : N ≤ 10000) (hs : sh n = .inr (2, N, zn)) (hz : σ n = fun _ => 0) (hκ : κ.2.1 + 1 ≤ κ.2.2.2.1 ∧ κ.2.2.1 + N ≤ κ.2.2.2.2) (eκ : (κ.1, κ.2.1 + 1, κ.2.2.1 + N, κ.2.2.2.1, κ.2.2.2.2) = κ') (en : n + 1 = n') (kk : Go G X M κ' n' sh σ (pc + 2) L (vr G n :: st) post) : Go G X M κ n sh σ pc L (vi v :: st) post := by
  subst eκ; subst en
  exact g_newa (a := 2) (t := .byte) rfl rfl (fun _ _ h => h) ac_byte rfl hd hv hN (by decide) hs hz hκ kk
theorem g_nwZ {N : Nat} {v : Int} (hd : decode M.1 pc = .ok (.newarray .boolean, 2)) (hv : v = (N : Int)) (hN : N ≤ 10000) (hs : sh n = .inr (3, N, zn)) (hz : σ n = fun _ => 0) (hκ : κ.2.1 + 1 ≤ κ.2.2.2.1 ∧ κ.2.2.1 + N ≤ κ.2.2.2.2) (eκ : (κ.1, κ.2.1 + 1, κ.2.2.1 + N, κ.2.2.2.1, κ.2.2.2.2) = κ') (en : n + 1 = n') (kk : Go G X M κ' n' sh σ (pc + 2) L (vr G n :: st) post) : Go G X M κ n sh σ pc L (vi v :: st) post := by
  subst eκ; subst en
  exact g_newa (a := 3) (t := .boolean) rfl rfl (fun _ _ h => h) ac_boolean rfl hd hv hN (by decide) hs hz hκ kk
theorem g_nw {x ci N : Nat} {CC : String} {T : u_T} {ty : Nat → FieldType} {fl : List (Option Nat ⊕ FieldType)} (hf : zFO ci CC T N ty) (hlk : Cond.classLink M.2.1 x CC ∈ zT) (hin : Cond.instantiable CC N ∈ zT) (hini : Cond.initialized CC ∈ zT) (hfs : ∀ j, j < N → defaultValue (ty j) = vp_V (fl.mapIdx (zFld G (fun _ => 0))) j) (hd : decode M.1 pc = .ok (.new x, 3)) (hz : σ n = fun _ => 0) (hκ : κ.2.1 + 1 ≤ κ.2.2.2.1 ∧ κ.2.2.1 + N ≤ κ.2.2.2.2) (eκ : (κ.1, κ.2.1 + 1, κ.2.2.1 + N, κ.2.2.2.1, κ.2.2.2.2) = κ') (en : n + 1 = n') (kk : Go G X M κ' n' (zu sh n (.inl (ci, fl))) σ (pc + 3) L (vr G n :: st) post) : Go G X M κ n sh σ pc L st post := by
  subst eκ; subst en
  refine g_sh (sh' := zu sh n (.inl (ci, fl))) (fun k hk => (zu_ne (by omega)).symm) ?_
  exact g_new hf hlk hin hini hfs hd (zu_eq _ _ _) hz hκ kk
theorem g_ptF {x ci j k q : Nat} {ty : FieldType} {fl fl' : List (Option Nat ⊕ FieldType)} (hf : zFL M.2.1 x ci j true ty) (hd : decode M.1 pc = .ok (.putfield x, 3)) (hi : M.2.2.2.2 = "<init>") (hc : (zcl[ci]?).map (·.1) = some M.2.1) (hk : k < n) (hj : j < fl.length) (hfl : fl.set j (.inl (some q)) = fl') (hn : narrow ty (vr G q) = vr G q) (hfit : fits ty (vr G q) = true) (kk : Go G X M κ n (zu s k (.inl (ci, fl'))) σ (pc + 3) L st post) : Go G X M κ n (zu s k (.inl (ci, fl))) σ pc L (vr G q :: vr G k :: st) post := g_putF hf hd hi hc hk (zu_eq _ _ _) hj hfl hn hfit (by rw [zu_zu]; exact kk)
theorem g_cI {y : MethodName} {M' : zM} {d mc ms na k x : Nat} {As : List Value} {sh' sh2 : Nat → zSh} {P : zSt → Prop} {st0 : List Value} (hm : Gm G y M' d mc ms (vr G k :: As) n sh σ (zV n' sh' P)) (hy : zCalI y M' na) (hl : Cond.methodLink M.2.1 x y ∈ zT) (hd : decode M.1 pc = .ok (.invokespecial x, 3)) (hn : As.length = na) (hst : st0 = As.reverse ++ vr G k :: st) (hw : (st.map fun v => v.category).sum ≤ 8) (hR : d + 1 ≤ κ.1) (hmc : κ.2.1 + mc ≤ κ.2.2.2.1 ∧ κ.2.2.1 + ms ≤ κ.2.2.2.2) (eκ : (κ.1, κ.2.1 + mc, κ.2.2.1 + ms, κ.2.2.2.1, κ.2.2.2.2) = κ') (en : n' = n + mc) (esh : sh' = sh2)
    (kk : ∀ (σ' : zSt), P σ' → Go G X M κ' n' sh2 σ' (pc + 3) L st post) : Go G X M κ n sh σ pc L st0 post := by
  subst eκ
  refine g_callI hm hy hl hd hn hst hw hR hmc ?_
  rintro r n1 sh1 σ' ⟨⟨rfl, hp⟩, rfl, rfl⟩
  exact ⟨en, by rw [esh]; exact kk σ' hp⟩
theorem g_cIN {y : MethodName} {M' : zM} {d mc ms na k x : Nat} {As : List Value} {sh' sh2 : Nat → zSh} {P : zSt → Prop} {st0 : List Value} (hm : Gm G y M' d mc ms (vr G k :: As) n sh σ (zV n' sh' P)) (hy : zCalI y M' na) (hl : (M.2.1, x, y, "NestedClips") ∈ zNm) (hd : decode M.1 pc = .ok (.invokespecial x, 3)) (hn : As.length = na) (hst : st0 = As.reverse ++ vr G k :: st) (hw : (st.map fun v => v.category).sum ≤ 8) (hR : d + 1 ≤ κ.1) (hmc : κ.2.1 + mc ≤ κ.2.2.2.1 ∧ κ.2.2.1 + ms ≤ κ.2.2.2.2) (eκ : (κ.1, κ.2.1 + mc, κ.2.2.1 + ms, κ.2.2.2.1, κ.2.2.2.2) = κ') (en : n' = n + mc) (esh : sh' = sh2)
    (kk : ∀ (σ' : zSt), P σ' → Go G X M κ' n' sh2 σ' (pc + 3) L st post) : Go G X M κ n sh σ pc L st0 post := by
  subst eκ
  refine g_callIN hm hy hl hd hn hst hw hR hmc ?_
  rintro r n1 sh1 σ' ⟨⟨rfl, hp⟩, rfl, rfl⟩
  exact ⟨en, by rw [esh]; exact kk σ' hp⟩
end GO
/-- arrays behind b -/
def zAr (s : Nat → zSh) (b : Nat) (l : List (Nat × Nat)) : Prop := ∀ i, i < l.length → s (b + 1 + i) = .inr ((l.getD i (0, 0)).1, (l.getD i (0, 0)).2, zn)
theorem zAr.u {s : Nat → zSh} {b k : Nat} {l : List (Nat × Nat)} {v : zSh} (h : zAr s b l) (hk : k ≤ b) : zAr (zu s k v) b l := fun i hi => by rw [zu_ne (by omega)]; exact h i hi
theorem c_Sh_init {G : zG} {s : Nat → zSh} {σ : zSt} {b : Nat} (ha : zAr s b [(0, 12), (0, 12), (0, 12), (0, 12), (0, 12), (0, 12), (0, 108), (0, 6), (0, 6)]) (hz : ∀ k, b < k → σ k = fun _ => 0) : Gm G y_Sh_init m_Sh_init 1 9 192 [vr G b] (b + 1) (zu s b (.inl (5, z0_Sh))) σ (zV (b + 10) (zu s b (.inl (5, [.inr .int, .inl (some (b + 1)), .inl (some (b + 2)), .inl (some (b + 3)), .inl (some (b + 4)), .inl (some (b + 5)), .inl (some (b + 6)), .inl (some (b + 7)), .inr .int, .inl (some (b + 8)), .inl (some (b + 9))]))) (fun σ' => σ' = σ)) := by
  refine g_enter (L := [(0, _)]) (by decide) rfl rfl rfl (Nat.le_of_ble_eq_true rfl) (fun X => ?_)
  refine g_aload_n (i := 0) (by decide +kernel) rfl ?_
  refine g_obj lo_Sh (by decide +kernel) (Nat.le_of_ble_eq_true rfl) (by omega) ?_
  refine g_aload_n (i := 0) (by decide +kernel) rfl ?_
  refine g_bipush (a := 12) (by decide +kernel) (by decide) ?_
  refine g_nwI (N := 12) (κ' := (1, 1, 12, 9, 192)) (n' := b + 2) (by decide +kernel) rfl (by decide) ((zu_ne (by omega)).trans (ha 0 (by decide))) (hz _ (by omega)) ⟨by decide, by decide⟩ rfl rfl ?_
  refine g_ptF f_Sh_9 (fl' := [.inr .int, .inl (some (b + 1)), .inl none, .inl none, .inl none, .inl none, .inl none, .inl none, .inr .int, .inl none, .inl none]) (by decide +kernel) rfl rfl (by omega) (Nat.le_of_ble_eq_true rfl) rfl rfl rfl ?_
  refine g_aload_n (i := 0) (by decide +kernel) rfl ?_
  refine g_bipush (a := 12) (by decide +kernel) (by decide) ?_
  refine g_nwI (N := 12) (κ' := (1, 2, 24, 9, 192)) (n' := b + 3) (by decide +kernel) rfl (by decide) ((zu_ne (by omega)).trans (ha 1 (by decide))) (hz _ (by omega)) ⟨by decide, by decide⟩ rfl rfl ?_
  refine g_ptF f_Sh_15 (fl' := [.inr .int, .inl (some (b + 1)), .inl (some (b + 2)), .inl none, .inl none, .inl none, .inl none, .inl none, .inr .int, .inl none, .inl none]) (by decide +kernel) rfl rfl (by omega) (Nat.le_of_ble_eq_true rfl) rfl rfl rfl ?_
  refine g_aload_n (i := 0) (by decide +kernel) rfl ?_
  refine g_bipush (a := 12) (by decide +kernel) (by decide) ?_
  refine g_nwI (N := 12) (κ' := (1, 3, 36, 9, 192)) (n' := b + 4) (by decide +kernel) rfl (by decide) ((zu_ne (by omega)).trans (ha 2 (by decide))) (hz _ (by omega)) ⟨by decide, by decide⟩ rfl rfl ?_
  refine g_ptF f_Sh_18 (fl' := [.inr .int, .inl (some (b + 1)), .inl (some (b + 2)), .inl (some (b + 3)), .inl none, .inl none, .inl none, .inl none, .inr .int, .inl none, .inl none]) (by decide +kernel) rfl rfl (by omega) (Nat.le_of_ble_eq_true rfl) rfl rfl rfl ?_
  refine g_aload_n (i := 0) (by decide +kernel) rfl ?_
  refine g_bipush (a := 12) (by decide +kernel) (by decide) ?_
  refine g_nwI (N := 12) (κ' := (1, 4, 48, 9, 192)) (n' := b + 5) (by decide +kernel) rfl (by decide) ((zu_ne (by omega)).trans (ha 3 (by decide))) (hz _ (by omega)) ⟨by decide, by decide⟩ rfl rfl ?_
  refine g_ptF f_Sh_21 (fl' := [.inr .int, .inl (some (b + 1)), .inl (some (b + 2)), .inl (some (b + 3)), .inl (some (b + 4)), .inl none, .inl none, .inl none, .inr .int, .inl none, .inl none]) (by decide +kernel) rfl rfl (by omega) (Nat.le_of_ble_eq_true rfl) rfl rfl rfl ?_
  refine g_aload_n (i := 0) (by decide +kernel) rfl ?_
  refine g_bipush (a := 12) (by decide +kernel) (by decide) ?_
  refine g_nwI (N := 12) (κ' := (1, 5, 60, 9, 192)) (n' := b + 6) (by decide +kernel) rfl (by decide) ((zu_ne (by omega)).trans (ha 4 (by decide))) (hz _ (by omega)) ⟨by decide, by decide⟩ rfl rfl ?_
  refine g_ptF f_Sh_24 (fl' := [.inr .int, .inl (some (b + 1)), .inl (some (b + 2)), .inl (some (b + 3)), .inl (some (b + 4)), .inl (some (b + 5)), .inl none, .inl none, .inr .int, .inl none, .inl none]) (by decide +kernel) rfl rfl (by omega) (Nat.le_of_ble_eq_true rfl) rfl rfl rfl ?_
  refine g_aload_n (i := 0) (by decide +kernel) rfl ?_
  refine g_bipush (a := 12) (by decide +kernel) (by decide) ?_
  refine g_nwI (N := 12) (κ' := (1, 6, 72, 9, 192)) (n' := b + 7) (by decide +kernel) rfl (by decide) ((zu_ne (by omega)).trans (ha 5 (by decide))) (hz _ (by omega)) ⟨by decide, by decide⟩ rfl rfl ?_
  refine g_ptF f_Sh_27 (fl' := [.inr .int, .inl (some (b + 1)), .inl (some (b + 2)), .inl (some (b + 3)), .inl (some (b + 4)), .inl (some (b + 5)), .inl (some (b + 6)), .inl none, .inr .int, .inl none, .inl none]) (by decide +kernel) rfl rfl (by omega) (Nat.le_of_ble_eq_true rfl) rfl rfl rfl ?_
  refine g_aload_n (i := 0) (by decide +kernel) rfl ?_
  refine g_bipush (a := 108) (by decide +kernel) (by decide) ?_
  refine g_nwI (N := 108) (κ' := (1, 7, 180, 9, 192)) (n' := b + 8) (by decide +kernel) rfl (by decide) ((zu_ne (by omega)).trans (ha 6 (by decide))) (hz _ (by omega)) ⟨by decide, by decide⟩ rfl rfl ?_
  refine g_ptF f_Sh_30 (fl' := [.inr .int, .inl (some (b + 1)), .inl (some (b + 2)), .inl (some (b + 3)), .inl (some (b + 4)), .inl (some (b + 5)), .inl (some (b + 6)), .inl (some (b + 7)), .inr .int, .inl none, .inl none]) (by decide +kernel) rfl rfl (by omega) (Nat.le_of_ble_eq_true rfl) rfl rfl rfl ?_
  refine g_aload_n (i := 0) (by decide +kernel) rfl ?_
  refine g_bipush (a := 6) (by decide +kernel) (by decide) ?_
  refine g_nwI (N := 6) (κ' := (1, 8, 186, 9, 192)) (n' := b + 9) (by decide +kernel) rfl (by decide) ((zu_ne (by omega)).trans (ha 7 (by decide))) (hz _ (by omega)) ⟨by decide, by decide⟩ rfl rfl ?_
  refine g_ptF f_Sh_33 (fl' := [.inr .int, .inl (some (b + 1)), .inl (some (b + 2)), .inl (some (b + 3)), .inl (some (b + 4)), .inl (some (b + 5)), .inl (some (b + 6)), .inl (some (b + 7)), .inr .int, .inl (some (b + 8)), .inl none]) (by decide +kernel) rfl rfl (by omega) (Nat.le_of_ble_eq_true rfl) rfl rfl rfl ?_
  refine g_aload_n (i := 0) (by decide +kernel) rfl ?_
  refine g_bipush (a := 6) (by decide +kernel) (by decide) ?_
  refine g_nwI (N := 6) (κ' := (1, 9, 192, 9, 192)) (n' := b + 10) (by decide +kernel) rfl (by decide) ((zu_ne (by omega)).trans (ha 8 (by decide))) (hz _ (by omega)) ⟨by decide, by decide⟩ rfl rfl ?_
  refine g_ptF f_Sh_36 (fl' := [.inr .int, .inl (some (b + 1)), .inl (some (b + 2)), .inl (some (b + 3)), .inl (some (b + 4)), .inl (some (b + 5)), .inl (some (b + 6)), .inl (some (b + 7)), .inr .int, .inl (some (b + 8)), .inl (some (b + 9))]) (by decide +kernel) rfl rfl (by omega) (Nat.le_of_ble_eq_true rfl) rfl rfl rfl ?_
  refine g_retV (by decide +kernel) rfl ⟨by decide, by decide⟩ ?_
  rfl
theorem c_La_init {G : zG} {s : Nat → zSh} {σ : zSt} {b : Nat} (ha : zAr s b [(0, 12), (0, 12), (0, 12), (0, 12), (3, 12)]) (hz : ∀ k, b < k → σ k = fun _ => 0) : Gm G y_La_init m_La_init 1 5 60 [vr G b] (b + 1) (zu s b (.inl (0, z0_La))) σ (zV (b + 6) (zu s b (.inl (0, [.inl (some (b + 1)), .inl (some (b + 2)), .inl (some (b + 3)), .inl (some (b + 4)), .inl (some (b + 5)), .inr .int]))) (fun σ' => σ' = σ)) := by
  refine g_enter (L := [(0, _)]) (by decide) rfl rfl rfl (Nat.le_of_ble_eq_true rfl) (fun X => ?_)
  refine g_aload_n (i := 0) (by decide +kernel) rfl ?_
  refine g_obj lo_La (by decide +kernel) (Nat.le_of_ble_eq_true rfl) (by omega) ?_
  refine g_aload_n (i := 0) (by decide +kernel) rfl ?_
  refine g_bipush (a := 12) (by decide +kernel) (by decide) ?_
  refine g_nwI (N := 12) (κ' := (1, 1, 12, 5, 60)) (n' := b + 2) (by decide +kernel) rfl (by decide) ((zu_ne (by omega)).trans (ha 0 (by decide))) (hz _ (by omega)) ⟨by decide, by decide⟩ rfl rfl ?_
  refine g_ptF f_La_9 (fl' := [.inl (some (b + 1)), .inl none, .inl none, .inl none, .inl none, .inr .int]) (by decide +kernel) rfl rfl (by omega) (Nat.le_of_ble_eq_true rfl) rfl rfl rfl ?_
  refine g_aload_n (i := 0) (by decide +kernel) rfl ?_
  refine g_bipush (a := 12) (by decide +kernel) (by decide) ?_
  refine g_nwI (N := 12) (κ' := (1, 2, 24, 5, 60)) (n' := b + 3) (by decide +kernel) rfl (by decide) ((zu_ne (by omega)).trans (ha 1 (by decide))) (hz _ (by omega)) ⟨by decide, by decide⟩ rfl rfl ?_
  refine g_ptF f_La_15 (fl' := [.inl (some (b + 1)), .inl (some (b + 2)), .inl none, .inl none, .inl none, .inr .int]) (by decide +kernel) rfl rfl (by omega) (Nat.le_of_ble_eq_true rfl) rfl rfl rfl ?_
  refine g_aload_n (i := 0) (by decide +kernel) rfl ?_
  refine g_bipush (a := 12) (by decide +kernel) (by decide) ?_
  refine g_nwI (N := 12) (κ' := (1, 3, 36, 5, 60)) (n' := b + 4) (by decide +kernel) rfl (by decide) ((zu_ne (by omega)).trans (ha 2 (by decide))) (hz _ (by omega)) ⟨by decide, by decide⟩ rfl rfl ?_
  refine g_ptF f_La_18 (fl' := [.inl (some (b + 1)), .inl (some (b + 2)), .inl (some (b + 3)), .inl none, .inl none, .inr .int]) (by decide +kernel) rfl rfl (by omega) (Nat.le_of_ble_eq_true rfl) rfl rfl rfl ?_
  refine g_aload_n (i := 0) (by decide +kernel) rfl ?_
  refine g_bipush (a := 12) (by decide +kernel) (by decide) ?_
  refine g_nwI (N := 12) (κ' := (1, 4, 48, 5, 60)) (n' := b + 5) (by decide +kernel) rfl (by decide) ((zu_ne (by omega)).trans (ha 3 (by decide))) (hz _ (by omega)) ⟨by decide, by decide⟩ rfl rfl ?_
  refine g_ptF f_La_21 (fl' := [.inl (some (b + 1)), .inl (some (b + 2)), .inl (some (b + 3)), .inl (some (b + 4)), .inl none, .inr .int]) (by decide +kernel) rfl rfl (by omega) (Nat.le_of_ble_eq_true rfl) rfl rfl rfl ?_
  refine g_aload_n (i := 0) (by decide +kernel) rfl ?_
  refine g_bipush (a := 12) (by decide +kernel) (by decide) ?_
  refine g_nwZ (N := 12) (κ' := (1, 5, 60, 5, 60)) (n' := b + 6) (by decide +kernel) rfl (by decide) ((zu_ne (by omega)).trans (ha 4 (by decide))) (hz _ (by omega)) ⟨by decide, by decide⟩ rfl rfl ?_
  refine g_ptF f_La_24 (fl' := [.inl (some (b + 1)), .inl (some (b + 2)), .inl (some (b + 3)), .inl (some (b + 4)), .inl (some (b + 5)), .inr .int]) (by decide +kernel) rfl rfl (by omega) (Nat.le_of_ble_eq_true rfl) rfl rfl rfl ?_
  refine g_retV (by decide +kernel) rfl ⟨by decide, by decide⟩ ?_
  rfl
theorem c_Mo_init {G : zG} {s : Nat → zSh} {σ : zSt} {b : Nat} (ha : zAr s b [(0, 12), (0, 12), (0, 12), (0, 12), (0, 12), (0, 12), (0, 12)]) (hz : ∀ k, b < k → σ k = fun _ => 0) : Gm G y_Mo_init m_Mo_init 1 7 84 [vr G b] (b + 1) (zu s b (.inl (1, z0_Mo))) σ (zV (b + 8) (zu s b (.inl (1, [.inr .int, .inr .int, .inl (some (b + 1)), .inl (some (b + 2)), .inl (some (b + 3)), .inl (some (b + 4)), .inl (some (b + 5)), .inl (some (b + 6)), .inl (some (b + 7))]))) (fun σ' => σ' = (zs (zs σ b 0 (-1)) b 1 100))) := by
  refine g_enter (L := [(0, _)]) (by decide) rfl rfl rfl (Nat.le_of_ble_eq_true rfl) (fun X => ?_)
  refine g_aload_n (i := 0) (by decide +kernel) rfl ?_
  refine g_obj lo_Mo (by decide +kernel) (Nat.le_of_ble_eq_true rfl) (by omega) ?_
  refine g_aload_n (i := 0) (by decide +kernel) rfl ?_
  refine g_iconst (a := -1) (by decide +kernel) ?_
  refine g_puti f_Mo_9 (by decide +kernel) (by omega) (zu_eq _ _ _) rfl ?_
  refine g_aload_n (i := 0) (by decide +kernel) rfl ?_
  refine g_bipush (a := 100) (by decide +kernel) (by decide) ?_
  refine g_puti f_Mo_15 (by decide +kernel) (by omega) (zu_eq _ _ _) rfl ?_
  refine g_aload_n (i := 0) (by decide +kernel) rfl ?_
  refine g_bipush (a := 12) (by decide +kernel) (by decide) ?_
  refine g_nwI (N := 12) (κ' := (1, 1, 12, 7, 84)) (n' := b + 2) (by decide +kernel) rfl (by decide) ((zu_ne (by omega)).trans (ha 0 (by decide))) (by rw [zs_other (by omega), zs_other (by omega)]; exact hz _ (by omega)) ⟨by decide, by decide⟩ rfl rfl ?_
  refine g_ptF f_Mo_18 (fl' := [.inr .int, .inr .int, .inl (some (b + 1)), .inl none, .inl none, .inl none, .inl none, .inl none, .inl none]) (by decide +kernel) rfl rfl (by omega) (Nat.le_of_ble_eq_true rfl) rfl rfl rfl ?_
  refine g_aload_n (i := 0) (by decide +kernel) rfl ?_
  refine g_bipush (a := 12) (by decide +kernel) (by decide) ?_
  refine g_nwI (N := 12) (κ' := (1, 2, 24, 7, 84)) (n' := b + 3) (by decide +kernel) rfl (by decide) ((zu_ne (by omega)).trans (ha 1 (by decide))) (by rw [zs_other (by omega), zs_other (by omega)]; exact hz _ (by omega)) ⟨by decide, by decide⟩ rfl rfl ?_
  refine g_ptF f_Mo_22 (fl' := [.inr .int, .inr .int, .inl (some (b + 1)), .inl (some (b + 2)), .inl none, .inl none, .inl none, .inl none, .inl none]) (by decide +kernel) rfl rfl (by omega) (Nat.le_of_ble_eq_true rfl) rfl rfl rfl ?_
  refine g_aload_n (i := 0) (by decide +kernel) rfl ?_
  refine g_bipush (a := 12) (by decide +kernel) (by decide) ?_
  refine g_nwI (N := 12) (κ' := (1, 3, 36, 7, 84)) (n' := b + 4) (by decide +kernel) rfl (by decide) ((zu_ne (by omega)).trans (ha 2 (by decide))) (by rw [zs_other (by omega), zs_other (by omega)]; exact hz _ (by omega)) ⟨by decide, by decide⟩ rfl rfl ?_
  refine g_ptF f_Mo_25 (fl' := [.inr .int, .inr .int, .inl (some (b + 1)), .inl (some (b + 2)), .inl (some (b + 3)), .inl none, .inl none, .inl none, .inl none]) (by decide +kernel) rfl rfl (by omega) (Nat.le_of_ble_eq_true rfl) rfl rfl rfl ?_
  refine g_aload_n (i := 0) (by decide +kernel) rfl ?_
  refine g_bipush (a := 12) (by decide +kernel) (by decide) ?_
  refine g_nwI (N := 12) (κ' := (1, 4, 48, 7, 84)) (n' := b + 5) (by decide +kernel) rfl (by decide) ((zu_ne (by omega)).trans (ha 3 (by decide))) (by rw [zs_other (by omega), zs_other (by omega)]; exact hz _ (by omega)) ⟨by decide, by decide⟩ rfl rfl ?_
  refine g_ptF f_Mo_28 (fl' := [.inr .int, .inr .int, .inl (some (b + 1)), .inl (some (b + 2)), .inl (some (b + 3)), .inl (some (b + 4)), .inl none, .inl none, .inl none]) (by decide +kernel) rfl rfl (by omega) (Nat.le_of_ble_eq_true rfl) rfl rfl rfl ?_
  refine g_aload_n (i := 0) (by decide +kernel) rfl ?_
  refine g_bipush (a := 12) (by decide +kernel) (by decide) ?_
  refine g_nwI (N := 12) (κ' := (1, 5, 60, 7, 84)) (n' := b + 6) (by decide +kernel) rfl (by decide) ((zu_ne (by omega)).trans (ha 4 (by decide))) (by rw [zs_other (by omega), zs_other (by omega)]; exact hz _ (by omega)) ⟨by decide, by decide⟩ rfl rfl ?_
  refine g_ptF f_Mo_31 (fl' := [.inr .int, .inr .int, .inl (some (b + 1)), .inl (some (b + 2)), .inl (some (b + 3)), .inl (some (b + 4)), .inl (some (b + 5)), .inl none, .inl none]) (by decide +kernel) rfl rfl (by omega) (Nat.le_of_ble_eq_true rfl) rfl rfl rfl ?_
  refine g_aload_n (i := 0) (by decide +kernel) rfl ?_
  refine g_bipush (a := 12) (by decide +kernel) (by decide) ?_
  refine g_nwI (N := 12) (κ' := (1, 6, 72, 7, 84)) (n' := b + 7) (by decide +kernel) rfl (by decide) ((zu_ne (by omega)).trans (ha 5 (by decide))) (by rw [zs_other (by omega), zs_other (by omega)]; exact hz _ (by omega)) ⟨by decide, by decide⟩ rfl rfl ?_
  refine g_ptF f_Mo_34 (fl' := [.inr .int, .inr .int, .inl (some (b + 1)), .inl (some (b + 2)), .inl (some (b + 3)), .inl (some (b + 4)), .inl (some (b + 5)), .inl (some (b + 6)), .inl none]) (by decide +kernel) rfl rfl (by omega) (Nat.le_of_ble_eq_true rfl) rfl rfl rfl ?_
  refine g_aload_n (i := 0) (by decide +kernel) rfl ?_
  refine g_bipush (a := 12) (by decide +kernel) (by decide) ?_
  refine g_nwI (N := 12) (κ' := (1, 7, 84, 7, 84)) (n' := b + 8) (by decide +kernel) rfl (by decide) ((zu_ne (by omega)).trans (ha 6 (by decide))) (by rw [zs_other (by omega), zs_other (by omega)]; exact hz _ (by omega)) ⟨by decide, by decide⟩ rfl rfl ?_
  refine g_ptF f_Mo_37 (fl' := [.inr .int, .inr .int, .inl (some (b + 1)), .inl (some (b + 2)), .inl (some (b + 3)), .inl (some (b + 4)), .inl (some (b + 5)), .inl (some (b + 6)), .inl (some (b + 7))]) (by decide +kernel) rfl rfl (by omega) (Nat.le_of_ble_eq_true rfl) rfl rfl rfl ?_
  refine g_retV (by decide +kernel) rfl ⟨by decide, by decide⟩ ?_
  rfl
theorem c_Re_init {G : zG} {s : Nat → zSh} {σ : zSt} {b : Nat} (ha : zAr s b [(0, 64), (0, 64), (0, 64), (0, 64), (3, 12), (0, 12)]) (hz : ∀ k, b < k → σ k = fun _ => 0) : Gm G y_Re_init m_Re_init 1 6 280 [vr G b] (b + 1) (zu s b (.inl (4, z0_Re))) σ (zV (b + 7) (zu s b (.inl (4, [.inr .int, .inr .int, .inl (some (b + 1)), .inl (some (b + 2)), .inl (some (b + 3)), .inl (some (b + 4)), .inl (some (b + 5)), .inl (some (b + 6))]))) (fun σ' => σ' = σ)) := by
  refine g_enter (L := [(0, _)]) (by decide) rfl rfl rfl (Nat.le_of_ble_eq_true rfl) (fun X => ?_)
  refine g_aload_n (i := 0) (by decide +kernel) rfl ?_
  refine g_obj lo_Re (by decide +kernel) (Nat.le_of_ble_eq_true rfl) (by omega) ?_
  refine g_aload_n (i := 0) (by decide +kernel) rfl ?_
  refine g_bipush (a := 64) (by decide +kernel) (by decide) ?_
  refine g_nwI (N := 64) (κ' := (1, 1, 64, 6, 280)) (n' := b + 2) (by decide +kernel) rfl (by decide) ((zu_ne (by omega)).trans (ha 0 (by decide))) (hz _ (by omega)) ⟨by decide, by decide⟩ rfl rfl ?_
  refine g_ptF f_Re_9 (fl' := [.inr .int, .inr .int, .inl (some (b + 1)), .inl none, .inl none, .inl none, .inl none, .inl none]) (by decide +kernel) rfl rfl (by omega) (Nat.le_of_ble_eq_true rfl) rfl rfl rfl ?_
  refine g_aload_n (i := 0) (by decide +kernel) rfl ?_
  refine g_bipush (a := 64) (by decide +kernel) (by decide) ?_
  refine g_nwI (N := 64) (κ' := (1, 2, 128, 6, 280)) (n' := b + 3) (by decide +kernel) rfl (by decide) ((zu_ne (by omega)).trans (ha 1 (by decide))) (hz _ (by omega)) ⟨by decide, by decide⟩ rfl rfl ?_
  refine g_ptF f_Re_15 (fl' := [.inr .int, .inr .int, .inl (some (b + 1)), .inl (some (b + 2)), .inl none, .inl none, .inl none, .inl none]) (by decide +kernel) rfl rfl (by omega) (Nat.le_of_ble_eq_true rfl) rfl rfl rfl ?_
  refine g_aload_n (i := 0) (by decide +kernel) rfl ?_
  refine g_bipush (a := 64) (by decide +kernel) (by decide) ?_
  refine g_nwI (N := 64) (κ' := (1, 3, 192, 6, 280)) (n' := b + 4) (by decide +kernel) rfl (by decide) ((zu_ne (by omega)).trans (ha 2 (by decide))) (hz _ (by omega)) ⟨by decide, by decide⟩ rfl rfl ?_
  refine g_ptF f_Re_18 (fl' := [.inr .int, .inr .int, .inl (some (b + 1)), .inl (some (b + 2)), .inl (some (b + 3)), .inl none, .inl none, .inl none]) (by decide +kernel) rfl rfl (by omega) (Nat.le_of_ble_eq_true rfl) rfl rfl rfl ?_
  refine g_aload_n (i := 0) (by decide +kernel) rfl ?_
  refine g_bipush (a := 64) (by decide +kernel) (by decide) ?_
  refine g_nwI (N := 64) (κ' := (1, 4, 256, 6, 280)) (n' := b + 5) (by decide +kernel) rfl (by decide) ((zu_ne (by omega)).trans (ha 3 (by decide))) (hz _ (by omega)) ⟨by decide, by decide⟩ rfl rfl ?_
  refine g_ptF f_Re_21 (fl' := [.inr .int, .inr .int, .inl (some (b + 1)), .inl (some (b + 2)), .inl (some (b + 3)), .inl (some (b + 4)), .inl none, .inl none]) (by decide +kernel) rfl rfl (by omega) (Nat.le_of_ble_eq_true rfl) rfl rfl rfl ?_
  refine g_aload_n (i := 0) (by decide +kernel) rfl ?_
  refine g_bipush (a := 12) (by decide +kernel) (by decide) ?_
  refine g_nwZ (N := 12) (κ' := (1, 5, 268, 6, 280)) (n' := b + 6) (by decide +kernel) rfl (by decide) ((zu_ne (by omega)).trans (ha 4 (by decide))) (hz _ (by omega)) ⟨by decide, by decide⟩ rfl rfl ?_
  refine g_ptF f_Re_24 (fl' := [.inr .int, .inr .int, .inl (some (b + 1)), .inl (some (b + 2)), .inl (some (b + 3)), .inl (some (b + 4)), .inl (some (b + 5)), .inl none]) (by decide +kernel) rfl rfl (by omega) (Nat.le_of_ble_eq_true rfl) rfl rfl rfl ?_
  refine g_aload_n (i := 0) (by decide +kernel) rfl ?_
  refine g_bipush (a := 12) (by decide +kernel) (by decide) ?_
  refine g_nwI (N := 12) (κ' := (1, 6, 280, 6, 280)) (n' := b + 7) (by decide +kernel) rfl (by decide) ((zu_ne (by omega)).trans (ha 5 (by decide))) (hz _ (by omega)) ⟨by decide, by decide⟩ rfl rfl ?_
  refine g_ptF f_Re_28 (fl' := [.inr .int, .inr .int, .inl (some (b + 1)), .inl (some (b + 2)), .inl (some (b + 3)), .inl (some (b + 4)), .inl (some (b + 5)), .inl (some (b + 6))]) (by decide +kernel) rfl rfl (by omega) (Nat.le_of_ble_eq_true rfl) rfl rfl rfl ?_
  refine g_retV (by decide +kernel) rfl ⟨by decide, by decide⟩ ?_
  rfl
theorem c_Ta_init {G : zG} {s : Nat → zSh} {σ : zSt} {b : Nat} (ha : zAr s b [(0, 600)]) (hz : ∀ k, b < k → σ k = fun _ => 0) : Gm G y_Ta_init m_Ta_init 1 1 600 [vr G b] (b + 1) (zu s b (.inl (8, z0_Ta))) σ (zV (b + 2) (zu s b (.inl (8, [.inl (some (b + 1)), .inr .int]))) (fun σ' => σ' = σ)) := by
  refine g_enter (L := [(0, _)]) (by decide) rfl rfl rfl (Nat.le_of_ble_eq_true rfl) (fun X => ?_)
  refine g_aload_n (i := 0) (by decide +kernel) rfl ?_
  refine g_obj lo_Ta (by decide +kernel) (Nat.le_of_ble_eq_true rfl) (by omega) ?_
  refine g_aload_n (i := 0) (by decide +kernel) rfl ?_
  refine g_sipush (a := 600) (by decide +kernel) (by decide) ?_
  refine g_nwI (N := 600) (κ' := (1, 1, 600, 1, 600)) (n' := b + 2) (by decide +kernel) rfl (by decide) ((zu_ne (by omega)).trans (ha 0 (by decide))) (hz _ (by omega)) ⟨by decide, by decide⟩ rfl rfl ?_
  refine g_ptF f_Ta_9 (fl' := [.inl (some (b + 1)), .inr .int]) (by decide +kernel) rfl rfl (by omega) (Nat.le_of_ble_eq_true rfl) rfl rfl rfl ?_
  refine g_retV (by decide +kernel) rfl ⟨by decide, by decide⟩ ?_
  rfl
theorem c_Sr_init {G : zG} {s : Nat → zSh} {σ : zSt} {b q : Nat} (ha : zAr s b [(0, 2000)]) (hz : ∀ k, b < k → σ k = fun _ => 0) : Gm G y_Sr_init m_Sr_init 1 1 2000 [vr G b, vr G q] (b + 1) (zu s b (.inl (7, z0_Sr))) σ (zV (b + 2) (zu s b (.inl (7, [.inl (some q), .inl (some (b + 1)), .inr .int, .inr .int, .inr .int, .inr .int]))) (fun σ' => σ' = σ)) := by
  refine g_enter (L := [(0, _), (1, _)]) (by decide) rfl rfl rfl (Nat.le_of_ble_eq_true rfl) (fun X => ?_)
  refine g_aload_n (i := 0) (by decide +kernel) rfl ?_
  refine g_obj lo_Sr (by decide +kernel) (Nat.le_of_ble_eq_true rfl) (by omega) ?_
  refine g_aload_n (i := 0) (by decide +kernel) rfl ?_
  refine g_sipush (a := 2000) (by decide +kernel) (by decide) ?_
  refine g_nwI (N := 2000) (κ' := (1, 1, 2000, 1, 2000)) (n' := b + 2) (by decide +kernel) rfl (by decide) ((zu_ne (by omega)).trans (ha 0 (by decide))) (hz _ (by omega)) ⟨by decide, by decide⟩ rfl rfl ?_
  refine g_ptF f_Sr_9 (fl' := [.inl none, .inl (some (b + 1)), .inr .int, .inr .int, .inr .int, .inr .int]) (by decide +kernel) rfl rfl (by omega) (Nat.le_of_ble_eq_true rfl) rfl rfl rfl ?_
  refine g_aload_n (i := 0) (by decide +kernel) rfl ?_
  refine g_aload_n (i := 1) (by decide +kernel) rfl ?_
  refine g_ptF f_Sr_15 (fl' := [.inl (some q), .inl (some (b + 1)), .inr .int, .inr .int, .inr .int, .inr .int]) (by decide +kernel) rfl rfl (by omega) (Nat.le_of_ble_eq_true rfl) rfl rfl rfl ?_
  refine g_retV (by decide +kernel) rfl ⟨by decide, by decide⟩ ?_
  rfl
theorem c_Rd_init {G : zG} {s : Nat → zSh} {σ : zSt} {b q r u : Nat} (ha : zAr s b [(1, 12), (1, 12)]) (hz : ∀ k, b < k → σ k = fun _ => 0) : Gm G y_Rd_init m_Rd_init 1 2 24 [vr G b, vr G q, vr G r, vr G u] (b + 1) (zu s b (.inl (3, z0_Rd))) σ (zV (b + 3) (zu s b (.inl (3, [.inl (some q), .inl (some r), .inl (some u), .inr .int, .inr .int, .inr .int, .inr .int, .inr .long, .inl (some (b + 1)), .inl (some (b + 2)), .inr .int, .inr .int, .inr .int, .inr .int, .inr .int]))) (fun σ' => σ' = σ)) := by
  refine g_enter (L := [(0, _), (1, _), (2, _), (3, _)]) (by decide) rfl rfl rfl (Nat.le_of_ble_eq_true rfl) (fun X => ?_)
  refine g_aload_n (i := 0) (by decide +kernel) rfl ?_
  refine g_obj lo_Rd (by decide +kernel) (Nat.le_of_ble_eq_true rfl) (by omega) ?_
  refine g_aload_n (i := 0) (by decide +kernel) rfl ?_
  refine g_bipush (a := 12) (by decide +kernel) (by decide) ?_
  refine g_nwJ (N := 12) (κ' := (1, 1, 12, 2, 24)) (n' := b + 2) (by decide +kernel) rfl (by decide) ((zu_ne (by omega)).trans (ha 0 (by decide))) (hz _ (by omega)) ⟨by decide, by decide⟩ rfl rfl ?_
  refine g_ptF f_Rd_11 (fl' := [.inl none, .inl none, .inl none, .inr .int, .inr .int, .inr .int, .inr .int, .inr .long, .inl (some (b + 1)), .inl none, .inr .int, .inr .int, .inr .int, .inr .int, .inr .int]) (by decide +kernel) rfl rfl (by omega) (Nat.le_of_ble_eq_true rfl) rfl rfl rfl ?_
  refine g_aload_n (i := 0) (by decide +kernel) rfl ?_
  refine g_bipush (a := 12) (by decide +kernel) (by decide) ?_
  refine g_nwJ (N := 12) (κ' := (1, 2, 24, 2, 24)) (n' := b + 3) (by decide +kernel) rfl (by decide) ((zu_ne (by omega)).trans (ha 1 (by decide))) (hz _ (by omega)) ⟨by decide, by decide⟩ rfl rfl ?_
  refine g_ptF f_Rd_15 (fl' := [.inl none, .inl none, .inl none, .inr .int, .inr .int, .inr .int, .inr .int, .inr .long, .inl (some (b + 1)), .inl (some (b + 2)), .inr .int, .inr .int, .inr .int, .inr .int, .inr .int]) (by decide +kernel) rfl rfl (by omega) (Nat.le_of_ble_eq_true rfl) rfl rfl rfl ?_
  refine g_aload_n (i := 0) (by decide +kernel) rfl ?_
  refine g_aload_n (i := 1) (by decide +kernel) rfl ?_
  refine g_ptF f_Rd_18 (fl' := [.inl (some q), .inl none, .inl none, .inr .int, .inr .int, .inr .int, .inr .int, .inr .long, .inl (some (b + 1)), .inl (some (b + 2)), .inr .int, .inr .int, .inr .int, .inr .int, .inr .int]) (by decide +kernel) rfl rfl (by omega) (Nat.le_of_ble_eq_true rfl) rfl rfl rfl ?_
  refine g_aload_n (i := 0) (by decide +kernel) rfl ?_
  refine g_aload_n (i := 2) (by decide +kernel) rfl ?_
  refine g_ptF f_Rd_22 (fl' := [.inl (some q), .inl (some r), .inl none, .inr .int, .inr .int, .inr .int, .inr .int, .inr .long, .inl (some (b + 1)), .inl (some (b + 2)), .inr .int, .inr .int, .inr .int, .inr .int, .inr .int]) (by decide +kernel) rfl rfl (by omega) (Nat.le_of_ble_eq_true rfl) rfl rfl rfl ?_
  refine g_aload_n (i := 0) (by decide +kernel) rfl ?_
  refine g_aload_n (i := 3) (by decide +kernel) rfl ?_
  refine g_ptF f_Rd_26 (fl' := [.inl (some q), .inl (some r), .inl (some u), .inr .int, .inr .int, .inr .int, .inr .int, .inr .long, .inl (some (b + 1)), .inl (some (b + 2)), .inr .int, .inr .int, .inr .int, .inr .int, .inr .int]) (by decide +kernel) rfl rfl (by omega) (Nat.le_of_ble_eq_true rfl) rfl rfl rfl ?_
  refine g_retV (by decide +kernel) rfl ⟨by decide, by decide⟩ ?_
  rfl
