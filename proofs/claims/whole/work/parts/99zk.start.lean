/-! THE CLAIM OUT OF ONE WALK OF THE LAW'S BODY. Your part is whole_start (and what it stands on); all else here is the same for every law, but numbers. -/
def R_law : String := "NestedClipsLaw"
def lw_P (b : Addr) (xs : List Int32) (args : Array Value) (s : State) : Prop := args = #[.ref b] ∧ s.IntsAt b xs ∧ xs.length ≤ 3072 ∧ (Jvm.Cond.and given_1 narrow_1).before args s = true
def lw_Q (_ : Array Value) (s : State) (o : Outcome) (t : State) : Prop := o = .returned (some (.int 1)) ∧ Framed s o t [] 600000 7302250
def lw_Z (below : List Frame) (a : Array Value) (s : State) : State → Prop := fun t => ∃ o, t.status = .running ∧ Ended t below o ∧ lw_Q a s o t
/-- the law's own end, with 1 on the stack, nothing written that was there before, its room as the claim has it -/
theorem lw_ret {p : Program} {l : Launch} {e : Env} {s : State} {m : MethodId} {below : List Frame} {meth : Method} {c : Code} {b : Nat} (hx : p.tables.exec = Jvm.exec) (hb : c.code = code) (hr : meth.sig.returnType = ret) (hlocks : meth.locks = false) {pc : Nat} {H : Heap} {ls : Array Slot} (hdg : decode code pc = .ok (.ireturn, 1)) : W p l e room_1 s m #[Value.ref b] below meth c H [] 600000 7302250 (lw_Z below #[Value.ref b] s) (F0 m pc ls [.int 1]) := by
  intro T hT X
  obtain ⟨fs, hret, hrun, hended, hW, hframe⟩ := X.leave (v := some (.int 1)) (hlocks := hlocks) (fun h => by rw [hr] at h; cases h)
  have hmeth' : T.vm.method? m = some meth := X.method'
  refine ⟨T.setFrames fs, ?_, .returned (some (.int 1)), hrun, hended, rfl, ⟨_, rfl⟩, hW, hframe⟩
  jvm_step X.here [X.here.top, hx, hb, hdg, hmeth', hr, ret, narrow_b1]
  (try refine ⟨rfl, ?_⟩); (try refine ⟨rfl, ?_⟩)
  first | (intro acts; rw [hret _ acts rfl rfl rfl]) | rw [hret _ _ rfl rfl rfl]
  exact Steps.refl _
/-- what holds at the law's entry: the machine, the code, the tables' words (any of lw_tbl by 'hts w (by decide +kernel)'), the script of L ints xs at the cell b, what the Statement gives of the start (any of its parts by flat_of_before) -/
def lw_At (p : Program) (s : State) (m : MethodId) (meth : Method) (c : Code) (b L : Nat) (xs : Nat → Int32) : Prop :=
  p.tables.exec = Jvm.exec ∧ c.code = code ∧ meth.sig.returnType = ret ∧ c.maxLocals = 4 ∧ s.vm.findClass R_law = some m.cls ∧ (∀ w ∈ lw_tbl, w.before #[Value.ref b] s = true) ∧ va_X b L xs s s.heap ∧ b < s.heap.size ∧ meth.locks = false ∧ (Jvm.Cond.and given_1 narrow_1).before #[Value.ref b] s = true
theorem zl_1 (j : Nat) {w : Cond} (h : tables_1_1[j]? = some w) : w ∈ lw_tbl := List.mem_append_right _ (List.mem_append_left _ (List.mem_of_getElem? h))
theorem zl_2 (j : Nat) {w : Cond} (h : tables_1_2[j]? = some w) : w ∈ lw_tbl := List.mem_append_right _ (List.mem_append_right _ (List.mem_append_left _ (List.mem_of_getElem? h)))
theorem zl_3 (j : Nat) {w : Cond} (h : tables_1_3[j]? = some w) : w ∈ lw_tbl := List.mem_append_right _ (List.mem_append_right _ (List.mem_append_right _ (List.mem_append_left _ (List.mem_of_getElem? h))))
theorem zl_4 (j : Nat) {w : Cond} (h : tables_1_4[j]? = some w) : w ∈ lw_tbl := List.mem_append_right _ (List.mem_append_right _ (List.mem_append_right _ (List.mem_append_right _ (List.mem_append_left _ (List.mem_of_getElem? h)))))
theorem zl_5 (j : Nat) {w : Cond} (h : tables_1_5[j]? = some w) : w ∈ lw_tbl := List.mem_append_right _ (List.mem_append_right _ (List.mem_append_right _ (List.mem_append_right _ (List.mem_append_right _ (List.mem_append_left _ (List.mem_of_getElem? h))))))
theorem zl_6 (j : Nat) {w : Cond} (h : tables_1_6[j]? = some w) : w ∈ lw_tbl := List.mem_append_right _ (List.mem_append_right _ (List.mem_append_right _ (List.mem_append_right _ (List.mem_append_right _ (List.mem_append_right _ (List.mem_append_left _ (List.mem_of_getElem? h)))))))
theorem zl_7 (j : Nat) {w : Cond} (h : tables_1_7[j]? = some w) : w ∈ lw_tbl := List.mem_append_right _ (List.mem_append_right _ (List.mem_append_right _ (List.mem_append_right _ (List.mem_append_right _ (List.mem_append_right _ (List.mem_append_right _ (List.mem_append_left _ (List.mem_of_getElem? h))))))))
theorem zl_8 (j : Nat) {w : Cond} (h : tables_1_8[j]? = some w) : w ∈ lw_tbl := List.mem_append_right _ (List.mem_append_right _ (List.mem_append_right _ (List.mem_append_right _ (List.mem_append_right _ (List.mem_append_right _ (List.mem_append_right _ (List.mem_append_right _ (List.mem_of_getElem? h))))))))
theorem zst_a0 : Cond.arrayOf (Term.static "NestedClips" "MARK_LEAST" "[I") .int ∈ flatC (Jvm.Cond.and given_1 narrow_1) ∧ Cond.eq (.length (Term.static "NestedClips" "MARK_LEAST" "[I")) (.int (Int32.ofNat 9)) ∈ flatC (Jvm.Cond.and given_1 narrow_1) := by decide +kernel
theorem zst_e0 : ∀ j, j < 9 → Cond.eq (.elem (Term.static "NestedClips" "MARK_LEAST" "[I") (.int (Int32.ofNat j))) (.int (Int32.ofInt (zTab 0 j))) ∈ flatC (Jvm.Cond.and given_1 narrow_1) := by decide +kernel
theorem zst_a1 : Cond.arrayOf (Term.static "NestedClips" "MARK_MOST" "[I") .int ∈ flatC (Jvm.Cond.and given_1 narrow_1) ∧ Cond.eq (.length (Term.static "NestedClips" "MARK_MOST" "[I")) (.int (Int32.ofNat 9)) ∈ flatC (Jvm.Cond.and given_1 narrow_1) := by decide +kernel
theorem zst_e1 : ∀ j, j < 9 → Cond.eq (.elem (Term.static "NestedClips" "MARK_MOST" "[I") (.int (Int32.ofNat j))) (.int (Int32.ofInt (zTab 1 j))) ∈ flatC (Jvm.Cond.and given_1 narrow_1) := by decide +kernel
theorem zst_a2 : Cond.arrayOf (Term.static "NestedClips" "TOLD_LEAST" "[I") .int ∈ flatC (Jvm.Cond.and given_1 narrow_1) ∧ Cond.eq (.length (Term.static "NestedClips" "TOLD_LEAST" "[I")) (.int (Int32.ofNat 9)) ∈ flatC (Jvm.Cond.and given_1 narrow_1) := by decide +kernel
theorem zst_e2 : ∀ j, j < 9 → Cond.eq (.elem (Term.static "NestedClips" "TOLD_LEAST" "[I") (.int (Int32.ofNat j))) (.int (Int32.ofInt (zTab 2 j))) ∈ flatC (Jvm.Cond.and given_1 narrow_1) := by decide +kernel
theorem zst_a3 : Cond.arrayOf (Term.static "NestedClips$Stretch" "SORT_STEPS" "[I") .int ∈ flatC (Jvm.Cond.and given_1 narrow_1) ∧ Cond.eq (.length (Term.static "NestedClips$Stretch" "SORT_STEPS" "[I")) (.int (Int32.ofNat 7)) ∈ flatC (Jvm.Cond.and given_1 narrow_1) := by decide +kernel
theorem zst_e3 : ∀ j, j < 7 → Cond.eq (.elem (Term.static "NestedClips$Stretch" "SORT_STEPS" "[I") (.int (Int32.ofNat j))) (.int (Int32.ofInt (zTab 3 j))) ∈ flatC (Jvm.Cond.and given_1 narrow_1) := by decide +kernel
theorem zst_s1 : Cond.exactly (Term.string "NestedClips$Reader" 185) "java/lang/String" ∈ flatC (Jvm.Cond.and given_1 narrow_1) ∧ Cond.eq (.field (Term.string "NestedClips$Reader" 185) "java/lang/String" "coder" "B") (.int 0) ∈ flatC (Jvm.Cond.and given_1 narrow_1) ∧ Cond.arrayOf (Term.field (Term.string "NestedClips$Reader" 185) "java/lang/String" "value" "[B") .byte ∈ flatC (Jvm.Cond.and given_1 narrow_1) ∧ Cond.eq (.length (Term.field (Term.string "NestedClips$Reader" 185) "java/lang/String" "value" "[B")) (.int (Int32.ofNat zBytes.length)) ∈ flatC (Jvm.Cond.and given_1 narrow_1) := by decide +kernel
theorem zst_s2 : ∀ j, j < zBytes.length → Cond.eq (.elem (Term.field (Term.string "NestedClips$Reader" 185) "java/lang/String" "value" "[B") (.int (Int32.ofNat j))) (.int (zBytes.getD j 0)) ∈ flatC (Jvm.Cond.and given_1 narrow_1) := by decide +kernel
theorem zst_j : Cond.eq (.static "java/lang/String" "COMPACT_STRINGS" "Z") (.int 1) ∈ flatC (Jvm.Cond.and given_1 narrow_1) ∧ Cond.isRef (.static "jdk/internal/util/Preconditions" "SIOOBE_FORMATTER" "Ljava/util/function/BiFunction;") ∈ flatC (Jvm.Cond.and given_1 narrow_1) := by decide +kernel
theorem z_start (l : Launch) {p : Program} {s : State} {m : MethodId} {meth : Method} {c : Code} {b L : Nat} {xs : Nat → Int32} (C0 : lw_At p s m meth c b L xs) : ∃ G : zG, G.1 = l ∧ G.2.1 = s.heap.size ∧ va_K (zD G) zcl (zTy G) s ∧ zS G s s.heap := by
  obtain ⟨hx, hb, hr, hml, hown, hts, hX, hbl, hlocks, hgv⟩ := C0
  have hs := flat_of_before _ hgv
  have hzT : ∀ w ∈ zT, w.before #[Value.ref b] s = true := fun w hw => hts w (List.mem_filter.mp hw).1
  have hA : ∀ a : Nat, a < s.heap.size → ¬ (fun q : Nat => s.heap.size ≤ q) a := fun a ha => Nat.not_le.mpr ha
  obtain ⟨c0, j0, hK0⟩ := u_known (C := R_La) (T := F_La) (N := 6) (n := 6) hzT i_La (hzT _ in_La)
  obtain ⟨c1, j1, hK1⟩ := u_known (C := R_Mo) (T := F_Mo) (N := 9) (n := 9) hzT i_Mo (hzT _ in_Mo)
  obtain ⟨c2, j2, hK2⟩ := u_known (C := R_Pa) (T := F_Pa) (N := 3) (n := 3) hzT i_Pa (hzT _ in_Pa)
  obtain ⟨c3, j3, hK3⟩ := u_known (C := R_Rd) (T := F_Rd) (N := 15) (n := 15) hzT i_Rd (hzT _ in_Rd)
  obtain ⟨c4, j4, hK4⟩ := u_known (C := R_Re) (T := F_Re) (N := 8) (n := 8) hzT i_Re (hzT _ in_Re)
  obtain ⟨c5, j5, hK5⟩ := u_known (C := R_Sh) (T := F_Sh) (N := 11) (n := 11) hzT i_Sh (hzT _ in_Sh)
  obtain ⟨c6, j6, hK6⟩ := u_known (C := R_Sg) (T := F_Sg) (N := 8) (n := 8) hzT i_Sg (hzT _ in_Sg)
  obtain ⟨c7, j7, hK7⟩ := u_known (C := R_Sr) (T := F_Sr) (N := 6) (n := 6) hzT i_Sr (hzT _ in_Sr)
  obtain ⟨c8, j8, hK8⟩ := u_known (C := R_Ta) (T := F_Ta) (N := 2) (n := 2) hzT i_Ta (hzT _ in_Ta)
  obtain ⟨c9, j9, hK9⟩ := u_known (C := R_Nc) (T := F_Nc) (N := 13) (n := 13) hzT i_Nc (hzT _ in_Nc)
  obtain ⟨c10, j10, hK10⟩ := u_known (C := R_Md) (T := F_Md) (N := 50) (n := 50) hzT i_Md (hzT _ in_Md)
  obtain ⟨a0, k0, p0, q0, r0, u0⟩ := Cond.arrayClass_spec (hzT _ ac_int)
  obtain ⟨a1, k1, p1, q1, r1, u1⟩ := Cond.arrayClass_spec (hzT _ ac_long)
  obtain ⟨a2, k2, p2, q2, r2, u2⟩ := Cond.arrayClass_spec (hzT _ ac_byte)
  obtain ⟨a3, k3, p3, q3, r3, u3⟩ := Cond.arrayClass_spec (hzT _ ac_boolean)
  obtain ⟨p4, a4, k4, v4, _, r4, u4, q4⟩ := Cond.arrayOver_spec (hts _ (zl_2 15 rfl))
  obtain ⟨p5, a5, k5, v5, _, r5, u5, q5⟩ := Cond.arrayOver_spec (hts _ (zl_1 193 rfl))
  obtain ⟨t0, e0, T0⟩ := va_Tof (tm := (Term.static "NestedClips" "MARK_LEAST" "[I")) (ty := .int) (N := 9) (f := fun j => vi (zTab 0 j)) (A := fun q : Nat => s.heap.size ≤ q) (by decide) (hs _ zst_a0.1) (va_eqt (hs _ zst_a0.2)) (fun j hj => va_eqt (hs _ (zst_e0 j hj))) hA
  have Z0 := va_Zref (A := fun q : Nat => s.heap.size ≤ q) (hts _ (zl_3 166 rfl)) (hts _ (zl_1 1 rfl)) e0 hA
  obtain ⟨t1, e1, T1⟩ := va_Tof (tm := (Term.static "NestedClips" "MARK_MOST" "[I")) (ty := .int) (N := 9) (f := fun j => vi (zTab 1 j)) (A := fun q : Nat => s.heap.size ≤ q) (by decide) (hs _ zst_a1.1) (va_eqt (hs _ zst_a1.2)) (fun j hj => va_eqt (hs _ (zst_e1 j hj))) hA
  have Z1 := va_Zref (A := fun q : Nat => s.heap.size ≤ q) (hts _ (zl_2 179 rfl)) (hts _ (zl_1 1 rfl)) e1 hA
  obtain ⟨t2, e2, T2⟩ := va_Tof (tm := (Term.static "NestedClips" "TOLD_LEAST" "[I")) (ty := .int) (N := 9) (f := fun j => vi (zTab 2 j)) (A := fun q : Nat => s.heap.size ≤ q) (by decide) (hs _ zst_a2.1) (va_eqt (hs _ zst_a2.2)) (fun j hj => va_eqt (hs _ (zst_e2 j hj))) hA
  have Z2 := va_Zref (A := fun q : Nat => s.heap.size ≤ q) (hts _ (zl_3 192 rfl)) (hts _ (zl_1 1 rfl)) e2 hA
  obtain ⟨t3, e3, T3⟩ := va_Tof (tm := (Term.static "NestedClips$Stretch" "SORT_STEPS" "[I")) (ty := .int) (N := 7) (f := fun j => vi (zTab 3 j)) (A := fun q : Nat => s.heap.size ≤ q) (by decide) (hs _ zst_a3.1) (va_eqt (hs _ zst_a3.2)) (fun j hj => va_eqt (hs _ (zst_e3 j hj))) hA
  have Z3 := va_Zref (A := fun q : Nat => s.heap.size ≤ q) (hts _ (zl_5 75 rfl)) (hts _ (zl_1 6 rfl)) e3 hA
  obtain ⟨adK, adV, hS, hE⟩ := vk_Sof (args := #[Value.ref b]) (s := s) (N := 1) (tm := fun _ => (Term.string "NestedClips$Reader" 185)) (len := [zBytes.length]) (byt := [zBytes]) (A := fun q : Nat => s.heap.size ≤ q) (fun i hi => by rw [show i = 0 by omega]; decide +kernel) (fun i hi => hs _ zst_s1.1) (fun i hi => hs _ zst_s1.2.1) (fun i hi => hs _ zst_s1.2.2.1) (fun i hi => by rw [show i = 0 by omega]; exact hs _ zst_s1.2.2.2) (fun i hi j hj => by rw [show i = 0 by omega] at hj ⊢; exact hs _ (zst_s2 j hj)) (fun i j hi hj hn => absurd (show i = j by omega) hn) hA
  refine ⟨(l, s.heap.size, fun k => [c0, c1, c2, c3, c4, c5, c6, c7, c8, c9, c10].getD k c0, fun k => [j0, j1, j2, j3, j4, j5, j6, j7, j8, j9, j10].getD k j0, fun k => [a0, a1, a2, a3, a4, a5].getD k a0, fun k => [t0, t1, t2, t3, adK 0, adV 0].getD k 0), rfl, rfl, ⟨fun c q hq => ?_, fun k q hq => ?_⟩, fun i hi => ?_, ⟨?_, ?_⟩, ⟨?_, ?_⟩, fun q hq => ?_, fun q hq => ?_, ?_, ?_⟩
  · match c, hq with
    | 0, hq => cases hq; exact hK0
    | 1, hq => cases hq; exact hK1
    | 2, hq => cases hq; exact hK2
    | 3, hq => cases hq; exact hK3
    | 4, hq => cases hq; exact hK4
    | 5, hq => cases hq; exact hK5
    | 6, hq => cases hq; exact hK6
    | 7, hq => cases hq; exact hK7
    | 8, hq => cases hq; exact hK8
    | 9, hq => cases hq; exact hK9
    | 10, hq => cases hq; exact hK10
    | c + 11, hq => exact absurd hq (by show ¬ (zcl[c + 11]? = some q); simp [zcl])
  · match k, hq with
    | 0, hq => cases hq; exact ⟨fun N z => ⟨fun k h => (by cases h), k0, r0, p0, u0⟩, q0⟩
    | 1, hq => cases hq; exact ⟨fun N z => ⟨fun k h => (by cases h), k1, r1, p1, u1⟩, q1⟩
    | 2, hq => cases hq; exact ⟨fun N z => ⟨fun k h => (by cases h), k2, r2, p2, u2⟩, q2⟩
    | 3, hq => cases hq; exact ⟨fun N z => ⟨fun k h => (by cases h), k3, r3, p3, u3⟩, q3⟩
    | 4, hq => cases hq; exact ⟨fun N z => ⟨fun k h => (by cases h), k4, r4, p4, u4⟩, k4, p4, r4, u4, v4, q4⟩
    | 5, hq => cases hq; exact ⟨fun N z => ⟨fun k h => (by cases h), k5, r5, p5, u5⟩, k5, p5, r5, u5, v5, q5⟩
    | k + 6, hq => exact absurd hq (by show ¬ ((zTy _)[k + 6]? = some q); simp [zTy])
  · match i, hi with
    | 0, _ => exact ⟨Z0, T0⟩
    | 1, _ => exact ⟨Z1, T1⟩
    | 2, _ => exact ⟨Z2, T2⟩
    | 3, _ => exact ⟨Z3, T3⟩
    | i + 4, hi => exact absurd hi (by omega)
  · exact vk_R.of (hts _ (zl_3 92 rfl)) (hE 0 (by decide))
  · obtain ⟨h1, h2⟩ := hS
    refine ⟨fun i hi => ?_, fun i j hi hj _ => by omega⟩
    have e : i = 0 := by omega
    subst e
    exact h1 0 (by decide)
  · exact va_Zof (hts _ (zl_3 102 rfl)) (hts _ (zl_1 13 rfl)) (va_eqi (hs _ zst_j.1)) hA
  · exact va_Zqof (hts _ (zl_3 118 rfl)) (hts _ (zl_1 15 rfl)) (hs _ zst_j.2) hA
  · simp only [zNf, List.mem_cons, List.not_mem_nil, or_false] at hq
    rcases hq with rfl | rfl | rfl | rfl
    · exact va_Nw.of rfl (hts _ (zl_2 178 rfl))
    · exact va_Nw.of rfl (hts _ (zl_3 165 rfl))
    · exact va_Nw.of rfl (hts _ (zl_3 191 rfl))
    · exact va_Nw.of rfl (hts _ (zl_3 193 rfl))
  · simp only [zNm, List.mem_cons, List.not_mem_nil, or_false] at hq
    rcases hq with rfl | rfl | rfl | rfl | rfl | rfl
    · exact va_Nw.of rfl (hts _ (zl_1 29 rfl))
    · exact va_Nw.of rfl (hts _ (zl_1 97 rfl))
    · exact va_Nw.of rfl (hts _ (zl_1 141 rfl))
    · exact va_Nw.of rfl (hts _ (zl_2 16 rfl))
    · exact va_Nw.of rfl (hts _ (zl_2 30 rfl))
    · exact va_Nw.of rfl (hts _ (zl_2 100 rfl))
  · exact va_AO.of (hts _ (zl_2 15 rfl))
  · exact va_AO.of (hts _ (zl_1 193 rfl))
