/-! NAMES: the class's numbers and the reference's -/
theorem zfo_cg {B o : Int} {b b' : Nat → Int} {f f' : Nat} : ∀ i, (∀ j, j < i → b (f + j) = b' (f' + j)) → zfo B o b f i = zfo B o b' f' i := by
  intro i
  induction i with
  | zero => intro _; rfl
  | succ i ih =>
    intro h
    show zfo B o b f i * B + (b (f + i) - o) = zfo B o b' f' i * B + (b' (f' + i) - o)
    rw [ih (fun j hj => h j (by omega)), h i (by omega)]
theorem zfo_inj32 : ∀ (i i' : Nat) (b b' : Nat → Int) (f f' : Nat), (∀ j, j < i → 97 ≤ b (f + j) ∧ b (f + j) ≤ 122) → (∀ j, j < i' → 97 ≤ b' (f' + j) ∧ b' (f' + j) ≤ 122) → zfo 32 96 b f i = zfo 32 96 b' f' i' → i = i' ∧ ∀ j, j < i → b (f + j) = b' (f' + j) := by
  have nn : ∀ (i : Nat) (b : Nat → Int) (f : Nat), (∀ j, j < i → 97 ≤ b (f + j) ∧ b (f + j) ≤ 122) → 0 ≤ zfo 32 96 b f i := by
    intro i
    induction i with
    | zero => intro b f _; exact Int.le_refl _
    | succ i ih =>
      intro b f h
      have g := ih b f (fun j hj => h j (by omega))
      have q := h i (by omega)
      show 0 ≤ zfo 32 96 b f i * 32 + (b (f + i) - 96)
      omega
  intro i
  induction i with
  | zero =>
    intro i' b b' f f' h h' e
    cases i' with
    | zero => exact ⟨rfl, fun j hj => absurd hj (by omega)⟩
    | succ i' =>
      have g := nn i' b' f' (fun j hj => h' j (by omega))
      have q := h' i' (by omega)
      have e : (0 : Int) = zfo 32 96 b' f' i' * 32 + (b' (f' + i') - 96) := e
      omega
  | succ i ih =>
    intro i' b b' f f' h h' e
    have g := nn i b f (fun j hj => h j (by omega))
    have q := h i (by omega)
    cases i' with
    | zero =>
      have e : zfo 32 96 b f i * 32 + (b (f + i) - 96) = (0 : Int) := e
      omega
    | succ i' =>
      have g' := nn i' b' f' (fun j hj => h' j (by omega))
      have q' := h' i' (by omega)
      have e : zfo 32 96 b f i * 32 + (b (f + i) - 96) = zfo 32 96 b' f' i' * 32 + (b' (f' + i') - 96) := e
      have e1 : zfo 32 96 b f i = zfo 32 96 b' f' i' := by omega
      obtain ⟨r1, r2⟩ := ih i' b b' f f' (fun j hj => h j (by omega)) (fun j hj => h' j (by omega)) e1
      subst r1
      refine ⟨rfl, fun j hj => ?_⟩
      rcases Nat.lt_or_ge j i with w | w
      · exact r2 j w
      · have ej : j = i := by omega
        subst ej
        omega
theorem zfo_inj27 : ∀ (i i' : Nat) (b b' : Nat → Int) (f f' : Nat), (∀ j, j < i → 97 ≤ b (f + j) ∧ b (f + j) ≤ 122) → (∀ j, j < i' → 97 ≤ b' (f' + j) ∧ b' (f' + j) ≤ 122) → zfo 27 96 b f i = zfo 27 96 b' f' i' → i = i' ∧ ∀ j, j < i → b (f + j) = b' (f' + j) := by
  have nn : ∀ (i : Nat) (b : Nat → Int) (f : Nat), (∀ j, j < i → 97 ≤ b (f + j) ∧ b (f + j) ≤ 122) → 0 ≤ zfo 27 96 b f i := by
    intro i
    induction i with
    | zero => intro b f _; exact Int.le_refl _
    | succ i ih =>
      intro b f h
      have g := ih b f (fun j hj => h j (by omega))
      have q := h i (by omega)
      show 0 ≤ zfo 27 96 b f i * 27 + (b (f + i) - 96)
      omega
  intro i
  induction i with
  | zero =>
    intro i' b b' f f' h h' e
    cases i' with
    | zero => exact ⟨rfl, fun j hj => absurd hj (by omega)⟩
    | succ i' =>
      have g := nn i' b' f' (fun j hj => h' j (by omega))
      have q := h' i' (by omega)
      have e : (0 : Int) = zfo 27 96 b' f' i' * 27 + (b' (f' + i') - 96) := e
      omega
  | succ i ih =>
    intro i' b b' f f' h h' e
    have g := nn i b f (fun j hj => h j (by omega))
    have q := h i (by omega)
    cases i' with
    | zero =>
      have e : zfo 27 96 b f i * 27 + (b (f + i) - 96) = (0 : Int) := e
      omega
    | succ i' =>
      have g' := nn i' b' f' (fun j hj => h' j (by omega))
      have q' := h' i' (by omega)
      have e : zfo 27 96 b f i * 27 + (b (f + i) - 96) = zfo 27 96 b' f' i' * 27 + (b' (f' + i') - 96) := e
      have e1 : zfo 27 96 b f i = zfo 27 96 b' f' i' := by omega
      obtain ⟨r1, r2⟩ := ih i' b b' f f' (fun j hj => h j (by omega)) (fun j hj => h' j (by omega)) e1
      subst r1
      refine ⟨rfl, fun j hj => ?_⟩
      rcases Nat.lt_or_ge j i with w | w
      · exact r2 j w
      · have ej : j = i := by omega
        subst ej
        omega
/-- x is the class's number, y the reference's of one name -/
def zNme (x y : Int) : Prop := ∃ (b : Nat → Int) (f i : Nat), i ≤ 9 ∧ (∀ j, j < i → 97 ≤ b (f + j) ∧ b (f + j) ≤ 122) ∧ x = zfo 32 96 b f i ∧ y = zfo 27 96 b f i
theorem zNme.iff {x y x' y' : Int} (h : zNme x y) (g : zNme x' y') : x = x' ↔ y = y' := by
  obtain ⟨b, f, i, h0, h1, h2, h3⟩ := h
  obtain ⟨b', f', i', g0, g1, g2, g3⟩ := g
  constructor
  · intro e
    rw [h2, g2] at e
    obtain ⟨e1, e2⟩ := zfo_inj32 i i' b b' f f' h1 g1 e
    subst e1
    rw [h3, g3]; exact zfo_cg i e2
  · intro e
    rw [h3, g3] at e
    obtain ⟨e1, e2⟩ := zfo_inj27 i i' b b' f f' h1 g1 e
    subst e1
    rw [h2, g2]; exact zfo_cg i e2
def zkps : List Nat := [0, 5, 9, 13, 17, 22, 28, 32, 37, 42, 48, 51, 55, 58, 63, 70]
def zkln : List Nat := [4, 3, 3, 3, 4, 5, 3, 4, 4, 5, 2, 3, 2, 4, 6, 5]
theorem zkd_nm0 : ∀ k, k < 16 → zkln.getD k 0 ≤ 9 ∧ (∀ j, j < zkln.getD k 0 → 97 ≤ zlt_ (zkps.getD k 0 + j) ∧ zlt_ (zkps.getD k 0 + j) ≤ 122) ∧ zkd.getD k 0 = zfo 32 96 zlt_ (zkps.getD k 0) (zkln.getD k 0) ∧ zke.getD k 0 = zfo 27 96 zlt_ (zkps.getD k 0) (zkln.getD k 0) := by decide +kernel
theorem zkd_nm {k : Nat} (h : k < 16) : zNme (zkd.getD k 0) (zke.getD k 0) := ⟨zlt_, zkps.getD k 0, zkln.getD k 0, zkd_nm0 k h⟩
theorem zNme.key {x y : Int} (h : zNme x y) : zki x zkd 0 = zki y zke 0 := by
  by_cases c : ∃ k, k < 16 ∧ zkd.getD k 0 = x
  · obtain ⟨k, hk, e⟩ := c
    have e2 := ((zkd_nm hk).iff h).mp e
    rw [← e, ← e2, zkd_at k hk, zke_at k hk]
  · rw [zki_no zkd 0 (fun j hj e => c ⟨j, hj, e⟩), zki_no zke 0 (fun j hj e => c ⟨j, hj, ((zkd_nm hj).iff h).mpr e⟩)]
theorem zke_r : ∀ k, k < 16 → 0 < zke.getD k 0 ∧ zke.getD k 0 < 1000000000000 := by decide +kernel
theorem zki_e {x : Int} : -1 ≤ zki x zke 0 ∧ zki x zke 0 ≤ 15 := by
  by_cases h : ∃ k, k < 16 ∧ zke.getD k 0 = x
  · obtain ⟨k, hk, rfl⟩ := h; rw [zke_at k hk]; omega
  · rw [zki_no zke 0 (fun j hj e => h ⟨j, hj, e⟩)]; decide
/-- a word of the tape -/
theorem zTs_nme {b : Nat → Int} {n0 q : Nat} (h : zTt b n0 q = 2) (h8 : (zTb b n0 q : Int) - q ≤ 8) : zNme (zTs b n0 q) (zfo 27 96 b q (min (zrn (zql b) n0 q - q) 9)) := by
  obtain ⟨h1, h2⟩ := zTt_w h
  obtain ⟨e1, e2⟩ := zTs_w h
  have l := zrn_lt h1 h2
  rw [e1] at h8
  have e3 : min (zrn (zql b) n0 q - q) 9 = zrn (zql b) n0 q - q := by omega
  rw [e2, e3]
  exact ⟨b, q, zrn (zql b) n0 q - q, by omega, fun j hj => zql_iff.mp (zrn_in (n := n0) (p := q) (by omega) (by omega)), rfl, rfl⟩
theorem zfo_long {b : Nat → Int} {f : Nat} (h : ∀ j, j < 9 → 97 ≤ b (f + j) ∧ b (f + j) ≤ 122) : zki (zfo 27 96 b f 9) zke 0 = -1 := by
  refine zki_no zke 0 (fun k hk e => ?_)
  obtain ⟨g0, g1, g2, g3⟩ := zkd_nm0 k hk
  rw [g3] at e
  have e1 := (zfo_inj27 _ 9 zlt_ b _ f g1 h e).1
  have e2 : ∀ k, k < 16 → zkln.getD k 0 ≠ 9 := by decide
  exact e2 k hk e1
/-- a fault is set, if there is none yet -/
def zfl (σ : zSt) (k : Int) : zSt := if 0 < σ 189 14 then σ else zs (zs σ 189 14 (if k = 2 ∧ σ 189 18 = 4 then 1 else k)) 189 15 (σ 189 16)
theorem c_Md_fails {G : zG} {n : Nat} {σ : zSt} {k : Int} (hn : 220 ≤ n) (h14 : zr (σ 189 14)) (h18 : ¬ 0 < σ 189 14 → zr (σ 189 18)) (z1 : zr k)  : Gm G y_Md_fails m_Md_fails 0 0 0 [vr G 189, vi k] n SH σ (zV n SH (fun σ' => σ' = zfl σ k)) := by
  refine g_enter (L := [(0, _), (1, _)]) (by decide) rfl rfl rfl (Nat.le_of_ble_eq_true rfl) (fun X => ?_)
  refine g_aload_n (i := 0) (by decide +kernel) rfl ?_
  refine g_geti f_Md_230 (by decide +kernel) (by omega) rfl rfl ?_
  refine g_if_le (off := 4) (tgt := 8) (by decide +kernel) (by decide) ⟨by omega, by omega⟩ (fun h4 => ?_) (fun h4 => ?_)
  · have h18 := h18 (by omega)
    refine g_aload_n (i := 0) (by decide +kernel) rfl ?_
    refine g_iload_n (i := 1) (by decide +kernel) rfl ?_
    refine g_iconst (a := 2) (by decide +kernel) ?_
    refine g_icmp_ne (off := 15) (tgt := 26) (by decide +kernel) (by decide) ⟨by omega, by omega⟩ ⟨by omega, by omega⟩ (fun h11 => ?_) (fun h11 => ?_)
    · refine g_iload_n (i := 1) (by decide +kernel) rfl ?_
      refine g_puti f_Md_230 (by decide +kernel) (by omega) rfl rfl ?_
      refine g_aload_n (i := 0) (by decide +kernel) rfl ?_
      refine g_aload_n (i := 0) (by decide +kernel) rfl ?_
      refine g_geti f_Md_210 (by decide +kernel) (by omega) rfl rfl ?_
      refine g_puti f_Md_233 (by decide +kernel) (by omega) rfl rfl ?_
      refine g_retV (by decide +kernel) rfl ⟨by decide, by decide⟩ ?_
      unfold zfl
      rw [if_neg (by omega), zs_ne (show ¬ ((189 : Nat) = 189 ∧ (16 : Nat) = 14) by decide)]
      first | rw [if_pos (by omega)] | rw [if_neg (by omega)]
    · refine g_aload_n (i := 0) (by decide +kernel) rfl ?_
      refine g_geti f_Md_213 (by decide +kernel) (by omega) rfl rfl ?_
      refine g_iconst (a := 4) (by decide +kernel) ?_
      refine g_icmp_ne (off := 7) (tgt := 26) (by decide +kernel) (by decide) ⟨by omega, by omega⟩ ⟨by omega, by omega⟩ (fun h19 => ?_) (fun h19 => ?_)
      · refine g_iload_n (i := 1) (by decide +kernel) rfl ?_
        refine g_puti f_Md_230 (by decide +kernel) (by omega) rfl rfl ?_
        refine g_aload_n (i := 0) (by decide +kernel) rfl ?_
        refine g_aload_n (i := 0) (by decide +kernel) rfl ?_
        refine g_geti f_Md_210 (by decide +kernel) (by omega) rfl rfl ?_
        refine g_puti f_Md_233 (by decide +kernel) (by omega) rfl rfl ?_
        refine g_retV (by decide +kernel) rfl ⟨by decide, by decide⟩ ?_
        unfold zfl
        rw [if_neg (by omega), zs_ne (show ¬ ((189 : Nat) = 189 ∧ (16 : Nat) = 14) by decide)]
        first | rw [if_pos (by omega)] | rw [if_neg (by omega)]
      · refine g_iconst (a := 1) (by decide +kernel) ?_
        refine g_goto (off := 4) (tgt := 27) (by decide +kernel) (by decide) ?_
        refine g_puti f_Md_230 (by decide +kernel) (by omega) rfl rfl ?_
        refine g_aload_n (i := 0) (by decide +kernel) rfl ?_
        refine g_aload_n (i := 0) (by decide +kernel) rfl ?_
        refine g_geti f_Md_210 (by decide +kernel) (by omega) rfl rfl ?_
        refine g_puti f_Md_233 (by decide +kernel) (by omega) rfl rfl ?_
        refine g_retV (by decide +kernel) rfl ⟨by decide, by decide⟩ ?_
        unfold zfl
        rw [if_neg (by omega), zs_ne (show ¬ ((189 : Nat) = 189 ∧ (16 : Nat) = 14) by decide)]
        first | rw [if_pos (by omega)] | rw [if_neg (by omega)]
  · refine g_retV (by decide +kernel) rfl ⟨by decide, by decide⟩ ?_
    unfold zfl
    rw [if_pos (by omega)]
theorem c_Md_wants {G : zG} {n : Nat} {σ : zSt} {a k : Int} (hn : 220 ≤ n) (h14 : zr (σ 189 14)) (h18 : ¬ 0 < σ 189 14 → zr (σ 189 18)) (z1 : zr k) (za : a = 0 ∨ a = 1)  : Gm G y_Md_wants m_Md_wants 1 0 0 [vr G 189, vi a, vi k] n SH σ (zV n SH (fun σ' => σ' = (if a = 0 then zfl σ k else σ))) := by
  refine g_enter (L := [(0, _), (1, _), (2, _)]) (by decide) rfl rfl rfl (Nat.le_of_ble_eq_true rfl) (fun X => ?_)
  refine g_iload_n (i := 1) (by decide +kernel) rfl ?_
  refine g_if_ne (off := 8) (tgt := 9) (by decide +kernel) (by decide) ⟨by omega, by omega⟩ (fun h1 => ?_) (fun h1 => ?_)
  · refine g_retV (by decide +kernel) rfl ⟨by decide, by decide⟩ ?_
    first | (rw [if_pos (by omega)]; exact hυ) | rw [if_neg (by omega)]
  · refine g_aload_n (i := 0) (by decide +kernel) rfl ?_
    refine g_iload_n (i := 2) (by decide +kernel) rfl ?_
    refine g_cVV (st := _) (c_Md_fails hn h14 h18 z1) k_Md_fails l_Md_236 (by decide +kernel) (by omega) rfl rfl rfl rfl (Nat.le_of_ble_eq_true rfl) (by decide) ⟨by decide, by decide⟩ ?_
    rintro υ hυ
    refine g_retV (by decide +kernel) rfl ⟨by decide, by decide⟩ ?_
    first | (rw [if_pos (by omega)]; exact hυ) | rw [if_neg (by omega)]
