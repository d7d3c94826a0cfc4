/-! CONSTRUCTORS of Past and Stage -/
theorem zu_cm {α : Type} (f : Nat → α) {a b : Nat} (h : a ≠ b) (x y : α) : zu (zu f a x) b y = zu (zu f b y) a x := by
  funext j
  by_cases e : j = a
  · rw [e, zu_ne h, zu_eq, zu_eq]
  · by_cases e2 : j = b
    · rw [e2, zu_eq, zu_ne (fun y => h y.symm), zu_eq]
    · rw [zu_ne e2, zu_ne e, zu_ne e, zu_ne e2]
section GO
variable {G : zG} {X : zX} {M : zM} {κ κ' : zK} {n n' : Nat} {sh s : Nat → zSh} {σ : zSt} {pc : Nat} {L L' : List (Nat × Value)} {st : List Value} {post : zPost}
theorem g_nwA {a N x : Nat} {v : Int} {CC : String} (hta : (zTy G)[a]? = some (G.2.2.2.2.1 a, .object CC)) (ha : a = 4 ∨ a = 5) (hlk : Cond.classLink M.2.1 x CC ∈ zT) (hAO : ∀ U H, zS G U H → va_AO CC U) (hd : decode M.1 pc = .ok (.anewarray x, 3)) (hv : v = (N : Int)) (hN : N ≤ 10000) (hκ : κ.2.1 + 1 ≤ κ.2.2.2.1 ∧ κ.2.2.1 + N ≤ κ.2.2.2.2) (eκ : (κ.1, κ.2.1 + 1, κ.2.2.1 + N, κ.2.2.2.1, κ.2.2.2.2) = κ') (en : n + 1 = n') (kk : Go G X M κ' n' (zu sh n (.inr (a, N, zn))) σ (pc + 3) L (vr G n :: st) post) : Go G X M κ n sh σ pc L (vi v :: st) post := by
  subst eκ; subst en
  refine g_sh (sh' := zu sh n (.inr (a, N, zn))) (fun k hk => (zu_ne (by omega)).symm) ?_
  exact g_anew hta ha hlk hAO hd hv hN (zu_eq _ _ _) hκ kk
/-- of an array of references only what is within it counts -/
theorem g_arr {a N k : Nat} {g g' : Nat → Option Nat} (hs : sh k = .inr (a, N, g)) (h4 : a = 4 ∨ a = 5) (hg : ∀ j, j < N → g j = g' j) (kk : Go G X M κ n (zu sh k (.inr (a, N, g'))) σ pc L st post) : Go G X M κ n sh σ pc L st post := fun C H locs ls h1 h2 h3 h4' => by
  refine kk C H locs ls h1 (fun i q hq => ?_) h3 h4'
  have hi : i < n := by rw [← zW_len G n (zu sh k (.inr (a, N, g'))) σ]; exact (List.getElem?_eq_some_iff.mp hq).1
  rw [zW_get hi] at hq
  have hq := Option.some.inj hq
  have h2i := h2 i _ (zW_get hi)
  by_cases e : i = k
  · subst e
    rw [zu_eq] at hq
    rw [hs] at h2i
    rw [← hq]
    have ez : arrV (G.2.2.2.2.1 a) N (fun j => va_rf ((g j).map (fun k => G.2.1 + k))) = arrV (G.2.2.2.2.1 a) N (fun j => va_rf ((g' j).map (fun k => G.2.1 + k))) := by
      unfold arrV
      congr 1
      congr 1
      funext j
      dsimp only
      rw [hg j.val j.isLt]
    rcases h4 with rfl | rfl
    · have h9 : H[G.2.1 + i]? = some (arrV (G.2.2.2.2.1 4) N (fun j => va_rf ((g j).map (fun k => G.2.1 + k)))) := h2i
      rw [ez] at h9
      exact h9
    · have h9 : H[G.2.1 + i]? = some (arrV (G.2.2.2.2.1 5) N (fun j => va_rf ((g j).map (fun k => G.2.1 + k)))) := h2i
      rw [ez] at h9
      exact h9
  · rw [zu_ne e] at hq
    rw [← hq]
    exact h2i
end GO
def zpk (a c i : Nat) : Nat → Option Nat := fun j => if j < i then some (a + c * j) else none
theorem zpk_0 (a c : Nat) : zpk a c 0 = zn := by funext j; unfold zpk zn; rw [if_neg (by omega)]
theorem zpk_s (a c i : Nat) : zu (zpk a c i) i (some (a + c * i)) = zpk a c (i + 1) := by
  funext j
  by_cases e : j = i
  · rw [e, zu_eq]; unfold zpk; rw [if_pos (by omega)]
  · rw [zu_ne e]; unfold zpk
    by_cases y : j < i
    · rw [if_pos y, if_pos (by omega)]
    · rw [if_neg y, if_neg (by omega)]
theorem zSw.ar {sh : Nat → zSh} {b : Nat} (h : zSw sh b) : zAr sh b [(0, 12), (0, 12), (0, 12), (0, 12), (0, 12), (0, 12), (0, 108), (0, 6), (0, 6)] := fun i hi => by
  match i, hi with
  | 0, _ => exact h.a1
  | 1, _ => exact h.a2
  | 2, _ => exact h.a3
  | 3, _ => exact h.a4
  | 4, _ => exact h.a5
  | 5, _ => exact h.a6
  | 6, _ => exact h.a7
  | 7, _ => exact h.a8
  | 8, _ => exact h.a9
  | i + 9, hi => exact absurd hi (by show ¬ (i + 9 < 9); omega)
theorem zMo.ar {sh : Nat → zSh} {b : Nat} (h : zMo sh b) : zAr sh b [(0, 12), (0, 12), (0, 12), (0, 12), (0, 12), (0, 12), (0, 12)] := fun i hi => by
  match i, hi with
  | 0, _ => exact h.a1
  | 1, _ => exact h.a2
  | 2, _ => exact h.a3
  | 3, _ => exact h.a4
  | 4, _ => exact h.a5
  | 5, _ => exact h.a6
  | 6, _ => exact h.a7
  | i + 7, hi => exact absurd hi (by show ¬ (i + 7 < 7); omega)
theorem zLa.ar {sh : Nat → zSh} {b : Nat} (h : zLa sh b) : zAr sh b [(0, 12), (0, 12), (0, 12), (0, 12), (3, 12)] := fun i hi => by
  match i, hi with
  | 0, _ => exact h.a1
  | 1, _ => exact h.a2
  | 2, _ => exact h.a3
  | 3, _ => exact h.a4
  | 4, _ => exact h.a5
  | i + 5, hi => exact absurd hi (by show ¬ (i + 5 < 5); omega)
theorem zAr.cg {s s' : Nat → zSh} {b : Nat} {l : List (Nat × Nat)} (h : zAr s b l) (e : ∀ k, b < k → k < b + 1 + l.length → s' k = s k) : zAr s' b l := fun i hi => by rw [e _ (by omega) (by omega)]; exact h i hi
theorem w_Pa_init {G : zG} {X : zX} {s : Nat → zSh} {σ : zSt} (hs : ∀ k, 95 < k → k < 177 → s k = SH k) (hz : ∀ k, 95 < k → σ k = fun _ => 0) : ∀ (m i : Nat) (x : Int), x = (i : Int) → i ≤ 8 → 8 < i + m → Go G X m_Pa_init (2, 1 + 10 * i, 8 + 203 * i, 81, 1632) (97 + 10 * i) (zu (zu s 96 (.inr (4, 8, zpk 97 10 i))) 95 (.inl (2, [.inl (some 96), .inr .int, .inr .int]))) σ 15 [(0, vr G 95), (1, vi x)] [] (zV 177 (zu s 95 (.inl (2, [.inl (some 96), .inr .int, .inr .int]))) (fun σ' => σ' = σ)) := by
  intro m
  induction m with
  | zero => intro i x  e1 hi  hm; exact absurd hm (by omega)
  | succ m ih =>
    intro i x  e1 hi  hm
    subst e1
    refine g_iload_n (i := 1) (by decide +kernel) rfl ?_
    refine g_bipush (a := 8) (by decide +kernel) (by decide) ?_
    refine g_icmp_ge (off := 22) (tgt := 40) (by decide +kernel) (by decide) ⟨by omega, by omega⟩ ⟨by omega, by omega⟩ (fun h18 => ?_) (fun h18 => ?_)
    · have ei : i = 8 := by omega
      subst ei
      refine g_less [0] (L' := [(0, vr G 95)]) rfl ?_
      refine g_arr (k := 96) (g' := zkp) ((zu_ne (by decide)).trans (zu_eq _ _ _)) (Or.inl rfl) (fun j hj => by unfold zpk zkp; rw [if_pos hj]) ?_
      rw [zu_cm _ (show (95 : Nat) ≠ 96 by decide), zu_zu, zu_id (show s 96 = .inr (4, 8, zkp) from hs 96 (by decide) (by decide))]
      refine g_retV (by decide +kernel) rfl ⟨by decide, by decide⟩ ?_
      rfl
    · have sw := sw_at i (by omega)
      have shb : ∀ k, 96 < k → k < 177 → (zu (zu s 96 (.inr (4, 8, zpk 97 10 i))) 95 (.inl (2, [.inl (some 96), .inr .int, .inr .int]))) k = SH k := fun k h1 h2 => by rw [zu_ne (by omega), zu_ne (by omega)]; exact hs k (by omega) h2
      refine g_aload_n (i := 0) (by decide +kernel) rfl ?_
      refine g_getr f_Pa_11 (by decide +kernel) (by omega) (zu_eq _ _ _) rfl ?_
      refine g_iload_n (i := 1) (by decide +kernel) rfl ?_
      refine g_nw (κ' := (2, 2 + 10 * i, 19 + 203 * i, 81, 1632)) (n' := 97 + 10 * i + 1) fo_Sh cl_Pa_9 in_Sh ii_Sh (df_Sh G) (by decide +kernel) (hz _ (by omega)) ⟨by show 1 + 10 * i + 1 ≤ 81; omega, by show 8 + 203 * i + 11 ≤ 1632; omega⟩ (by show (2, 1 + 10 * i + 1, 8 + 203 * i + 11, 81, 1632) = _; rw [show 1 + 10 * i + 1 = 2 + 10 * i by omega, show 8 + 203 * i + 11 = 19 + 203 * i by omega]) rfl ?_
      refine g_dup (by decide +kernel) rfl ?_
      refine g_cIN (κ' := (2, 1 + 10 * (i + 1), 8 + 203 * (i + 1), 81, 1632)) (sh2 := (zu (zu s 96 (.inr (4, 8, zpk 97 10 i))) 95 (.inl (2, [.inl (some 96), .inr .int, .inr .int])))) (c_Sh_init (b := 97 + 10 * i) (sw.ar.cg (fun k h1 h2 => shb k (by omega) (by have h3 : k < 97 + 10 * i + 1 + 9 := h2; omega))) (fun k hk => hz k (by omega))) k_Sh_init (List.mem_of_getElem? (i := 3) rfl) (by decide +kernel) rfl rfl (Nat.le_of_ble_eq_true rfl) (by show 1 + 1 ≤ 2; decide) ⟨by show 2 + 10 * i + 9 ≤ 81; omega, by show 19 + 203 * i + 192 ≤ 1632; omega⟩ (by show (2, 2 + 10 * i + 9, 19 + 203 * i + 192, 81, 1632) = _; rw [show 2 + 10 * i + 9 = 1 + 10 * (i + 1) by omega, show 19 + 203 * i + 192 = 8 + 203 * (i + 1) by omega]) (by omega) (zu_id ((shb _ (by omega) (by omega)).trans sw.a0)) ?_
      rintro σ' rfl
      refine g_aast (a := 4) (ci := 5) (j := i) (r := (R_Sh, F_Sh, 11)) (by decide +kernel) (by omega) ((zu_ne (by decide)).trans (zu_eq _ _ _)) (Or.inl rfl) rfl (by omega) ((shb _ (by omega) (by omega)).trans sw.a0) rfl rfl (by omega) (by decide) ?_
      rw [zu_cm _ (show (95 : Nat) ≠ 96 by decide), zu_zu, zpk_s]
      refine g_iinc (i := 1) (b := 1) (L' := [(0, _), (1, _)]) (by decide +kernel) rfl rfl rfl ?_
      refine g_goto (off := -22) (tgt := 15) (by decide +kernel) (by decide) ?_
      exact ih (i + 1) _ (by push_cast; rfl) (by omega) (by omega)
theorem c_Pa_init {G : zG} {s : Nat → zSh} {σ : zSt} (hs : ∀ k, 95 < k → k < 177 → s k = SH k) (hz : ∀ k, 95 < k → σ k = fun _ => 0) : Gm G y_Pa_init m_Pa_init 2 81 1632 [vr G 95] 96 (zu s 95 (.inl (2, z0_Pa))) σ (zV 177 (zu s 95 (.inl (2, [.inl (some 96), .inr .int, .inr .int]))) (fun σ' => σ' = σ)) := by
  refine g_enter (L := [(0, _)]) (by decide) rfl rfl rfl (Nat.le_of_ble_eq_true rfl) (fun X => ?_)
  refine g_aload_n (i := 0) (by decide +kernel) rfl ?_
  refine g_obj lo_Pa (by decide +kernel) (Nat.le_of_ble_eq_true rfl) (by omega) ?_
  refine g_aload_n (i := 0) (by decide +kernel) rfl ?_
  refine g_bipush (a := 8) (by decide +kernel) (by decide) ?_
  refine g_nwA (a := 4) (N := 8) (κ' := (2, 1, 8, 81, 1632)) (n' := 97) rfl (Or.inl rfl) cl_Pa_9 (fun _ _ h => h.2.2.2.2.2.1) (by decide +kernel) rfl (by decide) ⟨by decide, by decide⟩ rfl rfl ?_
  rw [zu_cm _ (show (95 : Nat) ≠ 96 by decide), ← zpk_0 97 10]
  refine g_ptF f_Pa_11 (fl' := [.inl (some 96), .inr .int, .inr .int]) (by decide +kernel) rfl rfl (by omega) (Nat.le_of_ble_eq_true rfl) rfl rfl rfl ?_
  refine g_iconst (a := 0) (by decide +kernel) ?_
  refine g_istore_n (i := 1) (L' := [(0, _), (1, _)]) (by decide +kernel) rfl rfl ?_
  exact w_Pa_init hs hz 9 0 _ rfl (by omega) (by omega)
theorem zMr_0 {σ : zSt} {p : Nat} (h : ∀ r, 1 ≤ r → r ≤ 7 → σ (p + r) = fun _ => 0) (h0 : zr (σ p 0)) : zMr σ p := by
  refine ⟨h0, fun k _ => ?_⟩
  rw [h 1 (by decide) (by decide), h 2 (by decide) (by decide), h 3 (by decide) (by decide), h 4 (by decide) (by decide), h 5 (by decide) (by decide), h 6 (by decide) (by decide), h 7 (by decide) (by decide)]
  dsimp only
  decide
theorem w_Sg_init {G : zG} {X : zX} {s : Nat → zSh} {q r : Nat} {σ : zSt} (hs : ∀ k, 33 < k → k < 93 → s k = SH k) (hz : ∀ k, 33 < k → σ k = fun _ => 0) : ∀ (m i : Nat) (x : Int) (τ : zSt), x = (i : Int) → i ≤ 6 → (∀ a, (a ≤ 33 ∨ 45 + 8 * i ≤ a) → τ a = σ a) → zMr τ 34 → (∀ j, j < i → zMr τ (45 + 8 * j)) → 6 < i + m → Go G X m_Sg_init (2, 11 + 8 * i, 117 + 93 * i, 59, 675) (45 + 8 * i) (zu (zu s 42 (.inr (5, 6, zpk 45 8 i))) 33 (.inl (6, [.inl (some q), .inl (some r), .inl (some 34), .inl (some 42), .inl (some 43), .inl (some 44), .inr .int, .inr .int]))) τ 52 [(0, vr G 33), (1, vr G q), (2, vr G r), (3, vi x)] [] (zV 93 (zu s 33 (.inl (6, [.inl (some q), .inl (some r), .inl (some 34), .inl (some 42), .inl (some 43), .inl (some 44), .inr .int, .inr .int]))) (fun σ' => (∀ a, (a ≤ 33 ∨ 93 ≤ a) → σ' a = σ a) ∧ zMr σ' 34 ∧ ∀ j, j < 6 → zMr σ' (45 + 8 * j))) := by
  intro m
  induction m with
  | zero => intro i x τ e1 hi i1 i2 i3 hm; exact absurd hm (by omega)
  | succ m ih =>
    intro i x τ e1 hi i1 i2 i3 hm
    subst e1
    refine g_iload_n (i := 3) (by decide +kernel) rfl ?_
    refine g_bipush (a := 6) (by decide +kernel) (by decide) ?_
    refine g_icmp_ge (off := 22) (tgt := 77) (by decide +kernel) (by decide) ⟨by omega, by omega⟩ ⟨by omega, by omega⟩ (fun h55 => ?_) (fun h55 => ?_)
    · have ei : i = 6 := by omega
      subst ei
      refine g_arr (k := 42) (g' := zmo) ((zu_ne (by decide)).trans (zu_eq _ _ _)) (Or.inr rfl) (fun j hj => by unfold zpk zmo; rw [if_pos hj]) ?_
      rw [zu_cm _ (show (33 : Nat) ≠ 42 by decide), zu_zu, zu_id (show s 42 = .inr (5, 6, zmo) from hs 42 (by decide) (by decide))]
      refine g_retV (by decide +kernel) rfl ⟨by decide, by decide⟩ ?_
      exact ⟨fun a ha => i1 a (by omega), i2, i3⟩
    · have sw := mo_at i (by omega)
      have shb : ∀ k, 42 < k → k < 93 → (zu (zu s 42 (.inr (5, 6, zpk 45 8 i))) 33 (.inl (6, [.inl (some q), .inl (some r), .inl (some 34), .inl (some 42), .inl (some 43), .inl (some 44), .inr .int, .inr .int]))) k = SH k := fun k h1 h2 => by rw [zu_ne (by omega), zu_ne (by omega)]; exact hs k (by omega) h2
      have tz : ∀ k, 45 + 8 * i ≤ k → τ k = fun _ => 0 := fun k hk => by rw [i1 k (by omega)]; exact hz k (by omega)
      refine g_aload_n (i := 0) (by decide +kernel) rfl ?_
      refine g_getr f_Sg_18 (by decide +kernel) (by omega) (zu_eq _ _ _) rfl ?_
      refine g_iload_n (i := 3) (by decide +kernel) rfl ?_
      refine g_nw (κ' := (2, 12 + 8 * i, 126 + 93 * i, 59, 675)) (n' := 45 + 8 * i + 1) fo_Mo cl_Sg_9 in_Mo ii_Mo (df_Mo G) (by decide +kernel) (tz _ (by omega)) ⟨by show 11 + 8 * i + 1 ≤ 59; omega, by show 117 + 93 * i + 9 ≤ 675; omega⟩ (by show (2, 11 + 8 * i + 1, 117 + 93 * i + 9, 59, 675) = _; rw [show 11 + 8 * i + 1 = 12 + 8 * i by omega, show 117 + 93 * i + 9 = 126 + 93 * i by omega]) rfl ?_
      refine g_dup (by decide +kernel) rfl ?_
      refine g_cIN (κ' := (2, 11 + 8 * (i + 1), 117 + 93 * (i + 1), 59, 675)) (sh2 := (zu (zu s 42 (.inr (5, 6, zpk 45 8 i))) 33 (.inl (6, [.inl (some q), .inl (some r), .inl (some 34), .inl (some 42), .inl (some 43), .inl (some 44), .inr .int, .inr .int])))) (c_Mo_init (b := 45 + 8 * i) (sw.ar.cg (fun k h1 h2 => shb k (by omega) (by have h3 : k < 45 + 8 * i + 1 + 7 := h2; omega))) (fun k hk => tz k (by omega))) k_Mo_init (List.mem_of_getElem? (i := 2) rfl) (by decide +kernel) rfl rfl (Nat.le_of_ble_eq_true rfl) (by show 1 + 1 ≤ 2; decide) ⟨by show 12 + 8 * i + 7 ≤ 59; omega, by show 126 + 93 * i + 84 ≤ 675; omega⟩ (by show (2, 12 + 8 * i + 7, 126 + 93 * i + 84, 59, 675) = _; rw [show 12 + 8 * i + 7 = 11 + 8 * (i + 1) by omega, show 126 + 93 * i + 84 = 117 + 93 * (i + 1) by omega]) (by omega) (zu_id ((shb _ (by omega) (by omega)).trans sw.a0)) ?_
      rintro σ' hσ'
      refine g_aast (a := 5) (ci := 1) (j := i) (r := (R_Mo, F_Mo, 9)) (by decide +kernel) (by omega) ((zu_ne (by decide)).trans (zu_eq _ _ _)) (Or.inr rfl) rfl (by omega) ((shb _ (by omega) (by omega)).trans sw.a0) rfl rfl (by omega) (by decide) ?_
      rw [zu_cm _ (show (33 : Nat) ≠ 42 by decide), zu_zu, zpk_s]
      refine g_iinc (i := 3) (b := 1) (L' := [(0, _), (1, _), (2, _), (3, _)]) (by decide +kernel) rfl rfl rfl ?_
      refine g_goto (off := -22) (tgt := 52) (by decide +kernel) (by decide) ?_
      have so : ∀ a, a ≠ 45 + 8 * i → σ' a = τ a := fun a ha => by rw [hσ', zs_other ha, zs_other ha]
      have mr : ∀ p, zMr τ p → (∀ r, r ≤ 7 → p + r ≠ 45 + 8 * i) → zMr σ' p := fun p hp he => by
        have e0 := so p (he 0 (by decide))
        obtain ⟨h0, h1⟩ := hp
        refine ⟨by rw [e0]; exact h0, fun k hk => ?_⟩
        rw [so (p + 1) (he 1 (by decide)), so (p + 2) (he 2 (by decide)), so (p + 3) (he 3 (by decide)), so (p + 4) (he 4 (by decide)), so (p + 5) (he 5 (by decide)), so (p + 6) (he 6 (by decide)), so (p + 7) (he 7 (by decide))]
        exact h1 k hk
      refine ih (i + 1) _ σ' (by push_cast; rfl) (by omega) (fun a ha => by rw [so a (by omega)]; exact i1 a (by omega)) (mr 34 i2 (fun r _ => by omega)) (fun j hj => ?_) (by omega)
      rcases Nat.lt_or_ge j i with y | y
      · exact mr _ (i3 j y) (fun r _ => by omega)
      · have ej : j = i := by omega
        subst ej
        refine zMr_0 (fun r h1 _ => by rw [so _ (by omega)]; exact tz _ (by omega)) ?_
        rw [hσ', zs_ne (by omega), zs_eq]; decide
theorem c_Sg_init {G : zG} {s : Nat → zSh} {q r : Nat} {σ : zSt} (hs : ∀ k, 33 < k → k < 93 → s k = SH k) (hz : ∀ k, 33 < k → σ k = fun _ => 0) : Gm G y_Sg_init m_Sg_init 2 59 675 [vr G 33, vr G q, vr G r] 34 (zu s 33 (.inl (6, z0_Sg))) σ (zV 93 (zu s 33 (.inl (6, [.inl (some q), .inl (some r), .inl (some 34), .inl (some 42), .inl (some 43), .inl (some 44), .inr .int, .inr .int]))) (fun σ' => (∀ a, (a ≤ 33 ∨ 93 ≤ a) → σ' a = σ a) ∧ zMr σ' 34 ∧ ∀ j, j < 6 → zMr σ' (45 + 8 * j))) := by
  refine g_enter (L := [(0, _), (1, _), (2, _)]) (by decide) rfl rfl rfl (Nat.le_of_ble_eq_true rfl) (fun X => ?_)
  have sb : ∀ v k, 33 < k → k < 93 → zu s 33 v k = SH k := fun v k h1 h2 => by rw [zu_ne (by omega)]; exact hs k h1 h2
  have e34 : SH 34 = .inl (1, [.inr .int, .inr .int, .inl (some (34 + 1)), .inl (some (34 + 2)), .inl (some (34 + 3)), .inl (some (34 + 4)), .inl (some (34 + 5)), .inl (some (34 + 6)), .inl (some (34 + 7))]) := rfl
  refine g_aload_n (i := 0) (by decide +kernel) rfl ?_
  refine g_obj lo_Sg (by decide +kernel) (Nat.le_of_ble_eq_true rfl) (by omega) ?_
  refine g_aload_n (i := 0) (by decide +kernel) rfl ?_
  refine g_nw (κ' := (2, 1, 9, 59, 675)) (n' := 35) fo_Mo cl_Sg_9 in_Mo ii_Mo (df_Mo G) (by decide +kernel) (hz _ (by omega)) ⟨by decide, by decide⟩ rfl rfl ?_
  refine g_dup (by decide +kernel) rfl ?_
  refine g_cIN (κ' := (2, 8, 93, 59, 675)) (n' := 42) (sh2 := (zu s 33 (.inl (6, z0_Sg)))) (c_Mo_init (b := 34) (mo_34.ar.cg (fun k h1 h2 => sb _ k (by omega) (by have h3 : k < 34 + 1 + 7 := h2; omega))) (fun k hk => hz k (by omega))) k_Mo_init (List.mem_of_getElem? (i := 2) rfl) (by decide +kernel) rfl rfl (Nat.le_of_ble_eq_true rfl) (by decide) ⟨by decide, by decide⟩ rfl rfl (zu_id ((sb _ 34 (by decide) (by decide)).trans e34)) ?_
  rintro σ1 hσ1
  have so : ∀ a, a ≠ 34 → σ1 a = σ a := fun a ha => by rw [hσ1, zs_other ha, zs_other ha]
  have tz : ∀ k, 34 < k → σ1 k = fun _ => 0 := fun k hk => by rw [so k (by omega)]; exact hz k (by omega)
  refine g_ptF f_Sg_12 (fl' := [.inl none, .inl none, .inl (some 34), .inl none, .inl none, .inl none, .inr .int, .inr .int]) (by decide +kernel) rfl rfl (by omega) (Nat.le_of_ble_eq_true rfl) rfl rfl rfl ?_
  refine g_aload_n (i := 0) (by decide +kernel) rfl ?_
  refine g_bipush (a := 6) (by decide +kernel) (by decide) ?_
  refine g_nwA (a := 5) (N := 6) (κ' := (2, 9, 99, 59, 675)) (n' := 43) rfl (Or.inr rfl) cl_Sg_9 (fun _ _ h => h.2.2.2.2.2.2) (by decide +kernel) rfl (by decide) ⟨by decide, by decide⟩ rfl rfl ?_
  rw [zu_cm _ (show (33 : Nat) ≠ 42 by decide), ← zpk_0 45 8]
  have sc : ∀ v k, 42 < k → k < 93 → zu (zu s 42 (.inr (5, 6, zpk 45 8 0))) 33 v k = SH k := fun v k h1 h2 => by rw [zu_ne (by omega), zu_ne (by omega)]; exact hs k (by omega) h2
  refine g_ptF f_Sg_18 (fl' := [.inl none, .inl none, .inl (some 34), .inl (some 42), .inl none, .inl none, .inr .int, .inr .int]) (by decide +kernel) rfl rfl (by omega) (Nat.le_of_ble_eq_true rfl) rfl rfl rfl ?_
  refine g_aload_n (i := 0) (by decide +kernel) rfl ?_
  refine g_bipush (a := 6) (by decide +kernel) (by decide) ?_
  refine g_nwI (N := 6) (κ' := (2, 10, 105, 59, 675)) (n' := 44) (by decide +kernel) rfl (by decide) (sc _ 43 (by decide) (by decide)) (tz _ (by omega)) ⟨by decide, by decide⟩ rfl rfl ?_
  refine g_ptF f_Sg_22 (fl' := [.inl none, .inl none, .inl (some 34), .inl (some 42), .inl (some 43), .inl none, .inr .int, .inr .int]) (by decide +kernel) rfl rfl (by omega) (Nat.le_of_ble_eq_true rfl) rfl rfl rfl ?_
  refine g_aload_n (i := 0) (by decide +kernel) rfl ?_
  refine g_bipush (a := 12) (by decide +kernel) (by decide) ?_
  refine g_nwI (N := 12) (κ' := (2, 11, 117, 59, 675)) (n' := 45) (by decide +kernel) rfl (by decide) (sc _ 44 (by decide) (by decide)) (tz _ (by omega)) ⟨by decide, by decide⟩ rfl rfl ?_
  refine g_ptF f_Sg_26 (fl' := [.inl none, .inl none, .inl (some 34), .inl (some 42), .inl (some 43), .inl (some 44), .inr .int, .inr .int]) (by decide +kernel) rfl rfl (by omega) (Nat.le_of_ble_eq_true rfl) rfl rfl rfl ?_
  refine g_aload_n (i := 0) (by decide +kernel) rfl ?_
  refine g_aload_n (i := 1) (by decide +kernel) rfl ?_
  refine g_ptF f_Sg_29 (fl' := [.inl (some q), .inl none, .inl (some 34), .inl (some 42), .inl (some 43), .inl (some 44), .inr .int, .inr .int]) (by decide +kernel) rfl rfl (by omega) (Nat.le_of_ble_eq_true rfl) rfl rfl rfl ?_
  refine g_aload_n (i := 0) (by decide +kernel) rfl ?_
  refine g_aload_n (i := 2) (by decide +kernel) rfl ?_
  refine g_ptF f_Sg_33 (fl' := [.inl (some q), .inl (some r), .inl (some 34), .inl (some 42), .inl (some 43), .inl (some 44), .inr .int, .inr .int]) (by decide +kernel) rfl rfl (by omega) (Nat.le_of_ble_eq_true rfl) rfl rfl rfl ?_
  refine g_iconst (a := 0) (by decide +kernel) ?_
  refine g_istore_n (i := 3) (L' := [(0, _), (1, _), (2, _), (3, _)]) (by decide +kernel) rfl rfl ?_
  refine w_Sg_init hs hz 7 0 _ σ1 rfl (by omega) (fun a ha => so a (by omega)) (zMr_0 (fun r h1 _ => tz _ (by omega)) ?_) (fun j hj => absurd hj (by omega)) (by omega)
  rw [hσ1, zs_ne (by decide), zs_eq]; decide
