theorem c_Sr_walk {G : zG} {n : Nat} {σ : zSt} {k : Nat} {w ev : Int} (hn : 189 ≤ n) (ho : zOn σ) (hk : k < (σ 1 0).toNat) (hR : zRs (σ 93)) (hw : zr w ∧ 0 ≤ w) (hev : ev = 0 ∨ ev = 1) : Gm G y_Sr_walk m_Sr_walk 5 0 0 [vr G 93, vi k, vi w, vi ev] n SH σ (zI n SH (fun a σ' => zWk σ σ' (zplay (zSv σ 1) k) ev w a)) := by
  refine g_enter (L := [(0, _), (1, _), (2, _), (3, _)]) (by decide) rfl rfl rfl (Nat.le_of_ble_eq_true rfl) (fun X => ?_)
  refine g_iconst (a := 0) (by decide +kernel) ?_
  refine g_istore (i := 4) (L' := [(0, _), (1, _), (2, _), (3, _), (4, _)]) (by decide +kernel) rfl rfl ?_
  refine g_iconst (a := -1) (by decide +kernel) ?_
  refine g_istore (i := 5) (L' := [(0, _), (1, _), (2, _), (3, _), (4, _), (5, _)]) (by decide +kernel) rfl rfl ?_
  refine g_iconst (a := 0) (by decide +kernel) ?_
  refine g_istore (i := 6) (L' := [(0, _), (1, _), (2, _), (3, _), (4, _), (5, _), (6, _)]) (by decide +kernel) rfl rfl ?_
  exact w_Sr_walk hn ho hk hw hev 2001 0 _ _ _ σ rfl ⟨fun _ _ _ => rfl, ho⟩ rfl rfl ⟨by decide, by decide⟩ hR (fun s hs => by omega) (by omega) (by omega)
/-- what a count leaves, and what a search -/
def zCt (σ σ' : zSt) (k : Nat) (ev a : Int) : Prop := zFr σ σ' ∧ zRs (σ' 93) ∧ a = (zMa (zplay (zSv σ 1) k) ev (σ 93) 2000).1
def zFd (σ σ' : zSt) (k : Nat) (ev w a : Int) : Prop := zFr σ σ' ∧ zRs (σ' 93) ∧ ((a = 1 ∧ ∃ T, T ≤ 2000 ∧ (w + 1, σ' 93) = zMa (zplay (zSv σ 1) k) ev (σ 93) T ∧ (T = 2000 ∨ zgo (zplay (zSv σ 1) k) ev T (σ' 93) = false)) ∨ (a = 0 ∧ (zMa (zplay (zSv σ 1) k) ev (σ 93) 2000).1 ≤ w))
theorem zWk.ct {σ σ' : zSt} {k : Nat} {ev a : Int} (h : zWk σ σ' (zplay (zSv σ 1) k) ev 2000 a) : zCt σ σ' k ev a := by
  obtain ⟨h1, h2, T, h3, h4, h5, h6⟩ := h
  refine ⟨h1, h2, ?_⟩
  rcases h6 with h6 | h6
  · rw [h6] at h4; exact congrArg Prod.fst h4
  · have := (zMa_n (zplay (zSv σ 1) k) ev (σ 93) T).2
    rw [← h4] at this
    have q : a ≤ (T : Int) := this
    omega
theorem zWk.fd {σ σ' : zSt} {k : Nat} {ev w a : Int} (h : zWk σ σ' (zplay (zSv σ 1) k) ev w a) : zFd σ σ' k ev w (if w < a then 1 else 0) := by
  obtain ⟨h1, h2, T, h3, h4, h5, h6⟩ := h
  refine ⟨h1, h2, ?_⟩
  by_cases z : w < a
  · rw [if_pos z]
    refine Or.inl ⟨rfl, T, h3, by rw [show w + 1 = a by omega]; exact h4, ?_⟩
    rcases h6 with h6 | h6
    · exact Or.inl h6
    · exact Or.inr h6.1
  · rw [if_neg z]
    refine Or.inr ⟨rfl, ?_⟩
    rcases h6 with h6 | h6
    · rw [h6] at h4; rw [← h4]; show a ≤ w; omega
    · omega
/-- where the piece at hand lies -/
theorem zMa_fl (p : Nat → Int) (ev : Int) (x : Nat → Int) : ∀ t, ((zMa p ev x t).1 = 0 ∧ zah p t = -1) ∨ (1 ≤ (zMa p ev x t).1 ∧ 0 ≤ (zMa p ev x t).2 2 ∧ (zMa p ev x t).2 2 ≤ (zMa p ev x t).2 3 ∧ (zMa p ev x t).2 3 < t)
  | 0 => Or.inl ⟨rfl, rfl⟩
  | t + 1 => by
    have a := zMa_fl p ev x t
    have ez : zah p (t + 1) = p t := by unfold zah; rw [if_neg (by omega)]; rfl
    rw [zMa_s, ez]
    unfold zMs
    by_cases hg : zgo p ev t (zMa p ev x t).2 = true
    · rw [if_pos hg]
      have g := of_decide_eq_true hg
      rcases a with ⟨a1, a2⟩ | ⟨a1, a2, a3, a4⟩
      · exact absurd a2 g.2.1
      · have hB : (if ev ≠ 0 ∧ (zMa p ev x t).2 2 = (zMa p ev x t).2 3 then zu (zMa p ev x t).2 4 (p t - zah p t) else (zMa p ev x t).2) 2 = (zMa p ev x t).2 2 := by
          split
          · exact zu_ne (by decide)
          · rfl
        refine Or.inr ⟨a1, ?_, ?_, ?_⟩
        · dsimp only
          rw [zu_ne (by decide), hB]; exact a2
        · dsimp only
          rw [zu_ne (by decide), hB, zu_eq]; omega
        · dsimp only
          rw [zu_eq]; push_cast; omega
    · rw [if_neg hg]
      by_cases hp : p t = -1
      · rw [if_neg (fun q => q hp)]
        rcases a with ⟨a1, a2⟩ | ⟨a1, a2, a3, a4⟩
        · exact Or.inl ⟨a1, hp⟩
        · exact Or.inr ⟨a1, a2, a3, by push_cast; omega⟩
      · rw [if_pos hp]
        have n := zMa_n p ev x t
        refine Or.inr ⟨by show 1 ≤ (zMa p ev x t).1 + 1; omega, ?_, ?_, ?_⟩
        · dsimp only
          rw [zu_ne (by decide), zu_ne (by decide), zu_ne (by decide), zu_eq]; omega
        · dsimp only
          rw [zu_ne (by decide), zu_ne (by decide), zu_ne (by decide), zu_eq, zu_ne (by decide), zu_ne (by decide), zu_eq]; exact Int.le_refl _
        · dsimp only
          rw [zu_ne (by decide), zu_ne (by decide), zu_eq]; push_cast; omega
/-- the first of so many from t on -/
def zfr (q : Nat → Bool) : Nat → Nat → Int
  | 0, _ => -1
  | m + 1, t => if q t = true then (t : Int) else zfr q m (t + 1)
theorem zfr_s (q : Nat → Bool) (m t : Nat) : zfr q (m + 1) t = if q t = true then (t : Int) else zfr q m (t + 1) := rfl
/-- whether a local has come to the wanted one -/
def zrch (st r w : Int) : Bool := decide (r = w ∨ (0 < st ∧ w < r) ∨ (st < 0 ∧ r < w))
theorem c_Sr_countPieces {G : zG} {n : Nat} {σ : zSt} {k : Nat} (hn : 189 ≤ n) (ho : zOn σ) (hk : k < (σ 1 0).toNat) (hR : zRs (σ 93)) : Gm G y_Sr_countPieces m_Sr_countPieces 6 0 0 [vr G 93, vi k] n SH σ (zI n SH (fun a σ' => zCt σ σ' k 1 a)) := by
  refine g_enter (L := [(0, _), (1, _)]) (by decide) rfl rfl rfl (Nat.le_of_ble_eq_true rfl) (fun X => ?_)
  refine g_aload_n (i := 0) (by decide +kernel) rfl ?_
  refine g_iload_n (i := 1) (by decide +kernel) rfl ?_
  refine g_sipush (a := 2000) (by decide +kernel) (by decide) ?_
  refine g_iconst (a := 1) (by decide +kernel) ?_
  refine g_cVI (st := []) (c_Sr_walk (w := 2000) (ev := 1) hn ho hk hR ⟨⟨by decide, by decide⟩, by decide⟩ (Or.inr rfl)) k_Sr_walk l_Sr_19 (by decide +kernel) (by omega) rfl rfl rfl rfl (Nat.le_of_ble_eq_true rfl) (by decide) ⟨by decide, by decide⟩ ?_
  rintro a σ1 hA
  refine g_retI (by decide +kernel) rfl (Or.inl rfl) ⟨by decide, by decide⟩ ?_
  exact hA.ct
theorem c_Sr_findPiece {G : zG} {n : Nat} {σ : zSt} {k : Nat} {w : Int} (hn : 189 ≤ n) (ho : zOn σ) (hk : k < (σ 1 0).toNat) (hR : zRs (σ 93)) (hw : zr w ∧ 0 ≤ w) : Gm G y_Sr_findPiece m_Sr_findPiece 6 0 0 [vr G 93, vi k, vi w] n SH σ (zI n SH (fun a σ' => zFd σ σ' k 1 w a)) := by
  refine g_enter (L := [(0, _), (1, _), (2, _)]) (by decide) rfl rfl rfl (Nat.le_of_ble_eq_true rfl) (fun X => ?_)
  refine g_aload_n (i := 0) (by decide +kernel) rfl ?_
  refine g_iload_n (i := 1) (by decide +kernel) rfl ?_
  refine g_iload_n (i := 2) (by decide +kernel) rfl ?_
  refine g_iconst (a := 1) (by decide +kernel) ?_
  refine g_cVI (st := []) (c_Sr_walk (w := w) (ev := 1) hn ho hk hR hw (Or.inr rfl)) k_Sr_walk l_Sr_19 (by decide +kernel) (by omega) rfl rfl rfl rfl (Nat.le_of_ble_eq_true rfl) (by decide) ⟨by decide, by decide⟩ ?_
  rintro a σ1 hA
  have fd := hA.fd
  have ra : zr a := by
    obtain ⟨-, -, T, t1, t2, -⟩ := id hA
    have q := zMa_n (zplay (zSv σ 1) k) 1 (σ 93) T
    rw [← t2] at q
    have q1 : 0 ≤ a ∧ a ≤ (T : Int) := q
    exact ⟨by omega, by omega⟩
  refine g_iload_n (i := 2) (by decide +kernel) rfl ?_
  refine g_icmp_le (off := 7) (tgt := 15) (by decide +kernel) (by decide) ra hw.1 (fun h8 => ?_) (fun h8 => ?_)
  · refine g_iconst (a := 0) (by decide +kernel) ?_
    refine g_retI (by decide +kernel) rfl (Or.inr ⟨rfl, by omega⟩) ⟨by decide, by decide⟩ ?_
    first
      | (have hz : a ≤ w := h8
         rw [if_neg (by omega)] at fd; exact fd)
      | (rw [if_pos (by omega)] at fd; exact fd)
  · refine g_iconst (a := 1) (by decide +kernel) ?_
    refine g_goto (off := 4) (tgt := 16) (by decide +kernel) (by decide) ?_
    refine g_retI (by decide +kernel) rfl (Or.inr ⟨rfl, by omega⟩) ⟨by decide, by decide⟩ ?_
    first
      | (have hz : a ≤ w := h8
         rw [if_neg (by omega)] at fd; exact fd)
      | (rw [if_pos (by omega)] at fd; exact fd)
theorem c_Sr_countSpans {G : zG} {n : Nat} {σ : zSt} {k : Nat} (hn : 189 ≤ n) (ho : zOn σ) (hk : k < (σ 1 0).toNat) (hR : zRs (σ 93)) : Gm G y_Sr_countSpans m_Sr_countSpans 6 0 0 [vr G 93, vi k] n SH σ (zI n SH (fun a σ' => zCt σ σ' k 0 a)) := by
  refine g_enter (L := [(0, _), (1, _)]) (by decide) rfl rfl rfl (Nat.le_of_ble_eq_true rfl) (fun X => ?_)
  refine g_aload_n (i := 0) (by decide +kernel) rfl ?_
  refine g_iload_n (i := 1) (by decide +kernel) rfl ?_
  refine g_sipush (a := 2000) (by decide +kernel) (by decide) ?_
  refine g_iconst (a := 0) (by decide +kernel) ?_
  refine g_cVI (st := []) (c_Sr_walk (w := 2000) (ev := 0) hn ho hk hR ⟨⟨by decide, by decide⟩, by decide⟩ (Or.inl rfl)) k_Sr_walk l_Sr_19 (by decide +kernel) (by omega) rfl rfl rfl rfl (Nat.le_of_ble_eq_true rfl) (by decide) ⟨by decide, by decide⟩ ?_
  rintro a σ1 hA
  refine g_retI (by decide +kernel) rfl (Or.inl rfl) ⟨by decide, by decide⟩ ?_
  exact hA.ct
theorem c_Sr_findSpan {G : zG} {n : Nat} {σ : zSt} {k : Nat} {w : Int} (hn : 189 ≤ n) (ho : zOn σ) (hk : k < (σ 1 0).toNat) (hR : zRs (σ 93)) (hw : zr w ∧ 0 ≤ w) : Gm G y_Sr_findSpan m_Sr_findSpan 6 0 0 [vr G 93, vi k, vi w] n SH σ (zI n SH (fun a σ' => zFd σ σ' k 0 w a)) := by
  refine g_enter (L := [(0, _), (1, _), (2, _)]) (by decide) rfl rfl rfl (Nat.le_of_ble_eq_true rfl) (fun X => ?_)
  refine g_aload_n (i := 0) (by decide +kernel) rfl ?_
  refine g_iload_n (i := 1) (by decide +kernel) rfl ?_
  refine g_iload_n (i := 2) (by decide +kernel) rfl ?_
  refine g_iconst (a := 0) (by decide +kernel) ?_
  refine g_cVI (st := []) (c_Sr_walk (w := w) (ev := 0) hn ho hk hR hw (Or.inl rfl)) k_Sr_walk l_Sr_19 (by decide +kernel) (by omega) rfl rfl rfl rfl (Nat.le_of_ble_eq_true rfl) (by decide) ⟨by decide, by decide⟩ ?_
  rintro a σ1 hA
  have fd := hA.fd
  have ra : zr a := by
    obtain ⟨-, -, T, t1, t2, -⟩ := id hA
    have q := zMa_n (zplay (zSv σ 1) k) 0 (σ 93) T
    rw [← t2] at q
    have q1 : 0 ≤ a ∧ a ≤ (T : Int) := q
    exact ⟨by omega, by omega⟩
  refine g_iload_n (i := 2) (by decide +kernel) rfl ?_
  refine g_icmp_le (off := 7) (tgt := 15) (by decide +kernel) (by decide) ra hw.1 (fun h8 => ?_) (fun h8 => ?_)
  · refine g_iconst (a := 0) (by decide +kernel) ?_
    refine g_retI (by decide +kernel) rfl (Or.inr ⟨rfl, by omega⟩) ⟨by decide, by decide⟩ ?_
    first
      | (have hz : a ≤ w := h8
         rw [if_neg (by omega)] at fd; exact fd)
      | (rw [if_pos (by omega)] at fd; exact fd)
  · refine g_iconst (a := 1) (by decide +kernel) ?_
    refine g_goto (off := 4) (tgt := 16) (by decide +kernel) (by decide) ?_
    refine g_retI (by decide +kernel) rfl (Or.inr ⟨rfl, by omega⟩) ⟨by decide, by decide⟩ ?_
    first
      | (have hz : a ≤ w := h8
         rw [if_neg (by omega)] at fd; exact fd)
      | (rw [if_pos (by omega)] at fd; exact fd)
theorem w_Sr_firstTimeAt {G : zG} {X : zX} {n : Nat} {σ : zSt} {k : Nat} {w : Int} (hn : 189 ≤ n) (ho : zOn σ) (hk : k < (σ 1 0).toNat) (hR : zRs (σ 93)) (hw : zr w) (hf : 0 ≤ σ 93 2 ∧ σ 93 3 ≤ 1999) : ∀ (m : Nat) (t : Nat) (x3 : Int) (τ : zSt), x3 = (t : Int) → zFr σ τ → τ 93 = σ 93 → zfr (fun t => zrch (σ 93 4) (zv (zSv σ 1) (t : Int) 2 k) w) (σ 93 3 + 1 - σ 93 2).toNat (σ 93 2).toNat = zfr (fun t => zrch (σ 93 4) (zv (zSv σ 1) (t : Int) 2 k) w) (σ 93 3 + 1 - t).toNat t → ((σ 93 2).toNat ≤ t ∧ ((t : Int) ≤ σ 93 3 + 1 ∨ t = (σ 93 2).toNat)) → (σ 93 3 + 1 - t).toNat < m → Go G X m_Sr_firstTimeAt (5, 0, 0, 0, 0) n SH τ 5 [(0, vr G 93), (1, vi k), (2, vi w), (3, vi x3)] [] (zI n SH (fun a σ' => zFr σ σ' ∧ σ' 93 = σ 93 ∧ a = zfr (fun t => zrch (σ 93 4) (zv (zSv σ 1) (t : Int) 2 k) w) (σ 93 3 + 1 - σ 93 2).toNat (σ 93 2).toNat)) := by
  intro m
  induction m with
  | zero => intro t x3 τ e3 hF h93 e1 hi hm; exact absurd hm (by omega)
  | succ m ih =>
    intro t x3 τ e3 hF h93 e1 hi hm
    have hc := ho.1.1
    have k12 : k < 12 := by omega
    have r2 := hR 2 (by decide) (by decide)
    have r3 := hR 3 (by decide) (by decide)
    have r4 := hR 4 (by decide) (by decide)
    have t3 : τ 93 3 = σ 93 3 := by rw [h93]
    have t4 : τ 93 4 = σ 93 4 := by rw [h93]
    subst e3
    refine g_iload_n (i := 3) (by decide +kernel) rfl ?_
    refine g_aload_n (i := 0) (by decide +kernel) rfl ?_
    refine g_geti f_Sr_27 (by decide +kernel) (by omega) rfl rfl ?_
    refine g_icmp_gt (off := 58) (tgt := 68) (by decide +kernel) (by decide) ⟨by omega, by unfold zr at r2 r3; omega⟩ (by rw [t3]; exact r3) (fun h10 => ?_) (fun h10 => ?_)
    · refine g_iconst (a := -1) (by decide +kernel) ?_
      refine g_retI (by decide +kernel) rfl (Or.inl rfl) ⟨by decide, by decide⟩ ?_
      refine ⟨hF, h93, ?_⟩
      rw [e1, show (σ 93 3 + 1 - (t : Int)).toNat = 0 by omega]; rfl
    · have em : (σ 93 3 + 1 - t).toNat = (σ 93 3 + 1 - ((t + 1 : Nat) : Int)).toNat + 1 := by omega
      rw [em, zfr_s] at e1
      refine g_aload_n (i := 0) (by decide +kernel) rfl ?_
      refine g_getr f_Sr_15 (by decide +kernel) (by omega) rfl rfl ?_
      refine g_iload_n (i := 3) (by decide +kernel) rfl ?_
      refine g_cVO (st := []) (c_Sg_at (t := (t : Int)) hn hF.2 ⟨by omega, by omega⟩) k_Sg_at l_Sr_30 (by decide +kernel) (by omega) rfl rfl rfl rfl (Nat.le_of_ble_eq_true rfl) (by decide) ⟨by decide, by decide⟩ ?_
      rintro q τ1 ⟨eq, hA⟩
      subst eq
      have F1 := hF.at hA
      have kT : k < (τ 1 0).toNat := by rw [hF.1 1 (by decide) (by decide)]; exact hk
      have m2 : -1 ≤ τ1 36 k ∧ τ1 36 k ≤ 1000000000 := (F1.1.2.mr.2 k k12).2.1
      have e2 : τ1 36 k = zv (zSv σ 1) t 2 k := by rw [← hF.v ho]; exact hA.2.2.1 k kT 2 (by decide) (by decide)
      have zl : zr (τ1 36 k) := ⟨by omega, by omega⟩
      have e4 : τ1 93 4 = σ 93 4 := by rw [F1.2]; exact t4
      have s4 : zr (τ1 93 4) := by rw [e4]; exact r4
      refine g_getr f_Sr_36 (by decide +kernel) (by omega) rfl rfl ?_
      refine g_iload_n (i := 1) (by decide +kernel) rfl ?_
      refine g_iald (by decide +kernel) (by omega) rfl rfl (by omega) (by decide) ?_
      refine g_istore (i := 4) (L' := [(0, _), (1, _), (2, _), (3, _), (4, _)]) (by decide +kernel) rfl rfl ?_
      refine g_iload (i := 4) (by decide +kernel) rfl ?_
      refine g_iload_n (i := 2) (by decide +kernel) rfl ?_
      refine g_icmp_eq (off := 29) (tgt := 60) (by decide +kernel) (by decide) zl hw (fun h31 => ?_) (fun h31 => ?_)
      · refine g_iload_n (i := 3) (by decide +kernel) rfl ?_
        refine g_retI (by decide +kernel) rfl (Or.inl rfl) ⟨by decide, by decide⟩ ?_
        refine ⟨F1.1, by rw [F1.2]; exact h93, ?_⟩
        rw [e1, if_pos]
        show zrch (σ 93 4) (zv (zSv σ 1) (t : Int) 2 k) w = true
        rw [← e2, ← e4]
        exact decide_eq_true (by omega)
      · refine g_aload_n (i := 0) (by decide +kernel) rfl ?_
        refine g_geti f_Sr_41 (by decide +kernel) (by omega) rfl rfl ?_
        refine g_if_le (off := 9) (tgt := 47) (by decide +kernel) (by decide) s4 (fun h38 => ?_) (fun h38 => ?_)
        · refine g_aload_n (i := 0) (by decide +kernel) rfl ?_
          refine g_geti f_Sr_41 (by decide +kernel) (by omega) rfl rfl ?_
          refine g_if_ge (off := 11) (tgt := 62) (by decide +kernel) (by decide) s4 (fun h51 => ?_) (fun h51 => ?_)
          · refine g_iinc (i := 3) (b := 1) (L' := [(0, _), (1, _), (2, _), (3, _), (4, _)]) (by decide +kernel) rfl rfl rfl ?_
            refine g_goto (off := -60) (tgt := 5) (by decide +kernel) (by decide) ?_
            refine g_less [0, 1, 2, 3] rfl (ih (t + 1) _ _ (by push_cast; rfl) F1.1 (by rw [F1.2]; exact h93) ?_ (by omega) (by omega))
            rw [e1, if_neg]
            show ¬ zrch (σ 93 4) (zv (zSv σ 1) (t : Int) 2 k) w = true
            rw [← e2, ← e4]
            exact fun q => by have := of_decide_eq_true q; omega
          · refine g_iload (i := 4) (by decide +kernel) rfl ?_
            refine g_iload_n (i := 2) (by decide +kernel) rfl ?_
            refine g_icmp_ge (off := 5) (tgt := 62) (by decide +kernel) (by decide) zl hw (fun h57 => ?_) (fun h57 => ?_)
            · refine g_iinc (i := 3) (b := 1) (L' := [(0, _), (1, _), (2, _), (3, _), (4, _)]) (by decide +kernel) rfl rfl rfl ?_
              refine g_goto (off := -60) (tgt := 5) (by decide +kernel) (by decide) ?_
              refine g_less [0, 1, 2, 3] rfl (ih (t + 1) _ _ (by push_cast; rfl) F1.1 (by rw [F1.2]; exact h93) ?_ (by omega) (by omega))
              rw [e1, if_neg]
              show ¬ zrch (σ 93 4) (zv (zSv σ 1) (t : Int) 2 k) w = true
              rw [← e2, ← e4]
              exact fun q => by have := of_decide_eq_true q; omega
            · refine g_iload_n (i := 3) (by decide +kernel) rfl ?_
              refine g_retI (by decide +kernel) rfl (Or.inl rfl) ⟨by decide, by decide⟩ ?_
              refine ⟨F1.1, by rw [F1.2]; exact h93, ?_⟩
              rw [e1, if_pos]
              show zrch (σ 93 4) (zv (zSv σ 1) (t : Int) 2 k) w = true
              rw [← e2, ← e4]
              exact decide_eq_true (by omega)
        · refine g_iload (i := 4) (by decide +kernel) rfl ?_
          refine g_iload_n (i := 2) (by decide +kernel) rfl ?_
          refine g_icmp_gt (off := 16) (tgt := 60) (by decide +kernel) (by decide) zl hw (fun h44 => ?_) (fun h44 => ?_)
          · refine g_iload_n (i := 3) (by decide +kernel) rfl ?_
            refine g_retI (by decide +kernel) rfl (Or.inl rfl) ⟨by decide, by decide⟩ ?_
            refine ⟨F1.1, by rw [F1.2]; exact h93, ?_⟩
            rw [e1, if_pos]
            show zrch (σ 93 4) (zv (zSv σ 1) (t : Int) 2 k) w = true
            rw [← e2, ← e4]
            exact decide_eq_true (by omega)
          · refine g_aload_n (i := 0) (by decide +kernel) rfl ?_
            refine g_geti f_Sr_41 (by decide +kernel) (by omega) rfl rfl ?_
            refine g_if_ge (off := 11) (tgt := 62) (by decide +kernel) (by decide) s4 (fun h51 => ?_) (fun h51 => ?_)
            · refine g_iinc (i := 3) (b := 1) (L' := [(0, _), (1, _), (2, _), (3, _), (4, _)]) (by decide +kernel) rfl rfl rfl ?_
              refine g_goto (off := -60) (tgt := 5) (by decide +kernel) (by decide) ?_
              refine g_less [0, 1, 2, 3] rfl (ih (t + 1) _ _ (by push_cast; rfl) F1.1 (by rw [F1.2]; exact h93) ?_ (by omega) (by omega))
              rw [e1, if_neg]
              show ¬ zrch (σ 93 4) (zv (zSv σ 1) (t : Int) 2 k) w = true
              rw [← e2, ← e4]
              exact fun q => by have := of_decide_eq_true q; omega
            · refine g_iload (i := 4) (by decide +kernel) rfl ?_
              refine g_iload_n (i := 2) (by decide +kernel) rfl ?_
              refine g_icmp_ge (off := 5) (tgt := 62) (by decide +kernel) (by decide) zl hw (fun h57 => ?_) (fun h57 => ?_)
              · refine g_iinc (i := 3) (b := 1) (L' := [(0, _), (1, _), (2, _), (3, _), (4, _)]) (by decide +kernel) rfl rfl rfl ?_
                refine g_goto (off := -60) (tgt := 5) (by decide +kernel) (by decide) ?_
                refine g_less [0, 1, 2, 3] rfl (ih (t + 1) _ _ (by push_cast; rfl) F1.1 (by rw [F1.2]; exact h93) ?_ (by omega) (by omega))
                rw [e1, if_neg]
                show ¬ zrch (σ 93 4) (zv (zSv σ 1) (t : Int) 2 k) w = true
                rw [← e2, ← e4]
                exact fun q => by have := of_decide_eq_true q; omega
              · refine g_iload_n (i := 3) (by decide +kernel) rfl ?_
                refine g_retI (by decide +kernel) rfl (Or.inl rfl) ⟨by decide, by decide⟩ ?_
                refine ⟨F1.1, by rw [F1.2]; exact h93, ?_⟩
                rw [e1, if_pos]
                show zrch (σ 93 4) (zv (zSv σ 1) (t : Int) 2 k) w = true
                rw [← e2, ← e4]
                exact decide_eq_true (by omega)
theorem c_Sr_firstTimeAt {G : zG} {n : Nat} {σ : zSt} {k : Nat} {w : Int} (hn : 189 ≤ n) (ho : zOn σ) (hk : k < (σ 1 0).toNat) (hR : zRs (σ 93)) (hw : zr w) (hf : 0 ≤ σ 93 2 ∧ σ 93 3 ≤ 1999) : Gm G y_Sr_firstTimeAt m_Sr_firstTimeAt 5 0 0 [vr G 93, vi k, vi w] n SH σ (zI n SH (fun a σ' => zFr σ σ' ∧ σ' 93 = σ 93 ∧ a = zfr (fun t => zrch (σ 93 4) (zv (zSv σ 1) (t : Int) 2 k) w) (σ 93 3 + 1 - σ 93 2).toNat (σ 93 2).toNat)) := by
  refine g_enter (L := [(0, _), (1, _), (2, _)]) (by decide) rfl rfl rfl (Nat.le_of_ble_eq_true rfl) (fun X => ?_)
  refine g_aload_n (i := 0) (by decide +kernel) rfl ?_
  refine g_geti f_Sr_23 (by decide +kernel) (by omega) rfl rfl ?_
  refine g_istore_n (i := 3) (L' := [(0, _), (1, _), (2, _), (3, _)]) (by decide +kernel) rfl rfl ?_
  exact w_Sr_firstTimeAt hn ho hk hR hw hf ((σ 93 3 + 1 - σ 93 2).toNat + 1) (σ 93 2).toNat _ σ (by omega) ⟨fun _ _ _ => rfl, ho⟩ rfl (by rw [show ((σ 93 2).toNat : Int) = σ 93 2 by omega]) ⟨Nat.le_refl _, Or.inr rfl⟩ (by omega)
