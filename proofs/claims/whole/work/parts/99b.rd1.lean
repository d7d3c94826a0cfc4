/-! TOKENS -/
/-- the end of a run of places of one kind -/
def zsk (P : Nat → Bool) : Nat → Nat → Nat
  | 0, p => p
  | f + 1, p => if P p then zsk P f (p + 1) else p
def zrn (P : Nat → Bool) (n p : Nat) : Nat := zsk P (n - p) p
theorem zrn_s {P : Nat → Bool} {n p : Nat} (h : p < n) (hp : P p = true) : zrn P n p = zrn P n (p + 1) := by
  unfold zrn
  rw [show n - p = (n - (p + 1)) + 1 by omega]
  show (if P p then _ else _) = _
  rw [if_pos hp]
theorem zrn_e {P : Nat → Bool} {n p : Nat} (h : n ≤ p ∨ P p = false) : zrn P n p = p := by
  unfold zrn
  cases e : n - p with
  | zero => rfl
  | succ f =>
    show (if P p then _ else _) = _
    rw [if_neg]
    rcases h with h | h
    · omega
    · rw [h]; decide
theorem zsk_r (P : Nat → Bool) : ∀ f p, p ≤ zsk P f p ∧ zsk P f p ≤ p + f := by
  intro f
  induction f with
  | zero => intro p; exact ⟨Nat.le_refl _, Nat.le_refl _⟩
  | succ f ih =>
    intro p
    show p ≤ (if P p then _ else _) ∧ (if P p then _ else _) ≤ _
    split
    · have := ih (p + 1); omega
    · omega
theorem zrn_r {P : Nat → Bool} {n p : Nat} (h : p ≤ n) : p ≤ zrn P n p ∧ zrn P n p ≤ n := by have := zsk_r P (n - p) p; unfold zrn; omega
theorem zrn_lt {P : Nat → Bool} {n p : Nat} (h : p < n) (hp : P p = true) : p < zrn P n p := by rw [zrn_s h hp]; have := zrn_r (P := P) (n := n) (p := p + 1) (by omega); omega
theorem zsk_in (P : Nat → Bool) : ∀ f p j, p ≤ j → j < zsk P f p → P j = true := by
  intro f
  induction f with
  | zero => intro p j h1 h2; exact absurd h2 (by show ¬ j < p; omega)
  | succ f ih =>
    intro p j h1 h2
    by_cases hp : P p = true
    · have e : zsk P (f + 1) p = zsk P f (p + 1) := if_pos hp
      rw [e] at h2
      rcases Nat.eq_or_lt_of_le h1 with q | q
      · rw [← q]; exact hp
      · exact ih (p + 1) j q h2
    · have e : zsk P (f + 1) p = p := if_neg hp
      omega
theorem zrn_in {P : Nat → Bool} {n p j : Nat} (h1 : p ≤ j) (h2 : j < zrn P n p) : P j = true := zsk_in P (n - p) p j h1 h2
def zqs (b : Nat → Int) (j : Nat) : Bool := decide (b j = 10 ∨ b j = 32)
def zql (b : Nat → Int) (j : Nat) : Bool := decide (97 ≤ b j ∧ b j ≤ 122)
def zqd (b : Nat → Int) (j : Nat) : Bool := decide (48 ≤ b j ∧ b j ≤ 57)
/-- what i letters or digits from f on say -/
def zfo (B o : Int) (b : Nat → Int) (f : Nat) : Nat → Int
  | 0 => 0
  | i + 1 => zfo B o b f i * B + (b (f + i) - o)
/-- the token at f: its type, what is behind it, what it says -/
def zTt (b : Nat → Int) (n f : Nat) : Int := if n ≤ f then 0 else if zql b f then 2 else if zqd b f then (if zrn (zqd b) n f - f > 4 then 1 else 3) else if b f = 40 ∨ b f = 41 ∨ b f = 59 then 4 else 1
def zTb (b : Nat → Int) (n f : Nat) : Nat := if n ≤ f then f else if zql b f then zrn (zql b) n f else if zqd b f then zrn (zqd b) n f else f + 1
def zTs (b : Nat → Int) (n f : Nat) : Int := if n ≤ f then 0 else if zql b f then zfo 32 96 b f (zrn (zql b) n f - f) else if zqd b f then zfo 10 48 b f (zrn (zqd b) n f - f) else b f
/-- the words' codes -/
def zkd : List Int := [398374, 16434, 19633, 4786, 591493, 21279923, 3764, 66667, 277892, 12641458, 302, 16052, 52, 763528, 72623556, 17372787]
def zke : List Int := [239874, 11709, 14003, 3501, 355568, 10815598, 2774, 40187, 168727, 6415353, 257, 11522, 47, 459818, 31519426, 8861527]
def zki (x : Int) : List Int → Int → Int
  | [], _ => -1
  | c :: l, k => if x = c then k else zki x l (k + 1)
theorem zki_no {x : Int} : ∀ (l : List Int) (k : Int), (∀ j, j < l.length → l.getD j 0 ≠ x) → zki x l k = -1 := by
  intro l
  induction l with
  | nil => intro k _; rfl
  | cons c l ih =>
    intro k h
    show (if x = c then k else zki x l (k + 1)) = -1
    rw [if_neg (fun e => h 0 (Nat.succ_pos _) e.symm)]
    exact ih (k + 1) (fun j hj => h (j + 1) (Nat.succ_lt_succ hj))
theorem zkd_at : ∀ k, k < 16 → zki (zkd.getD k 0) zkd 0 = (k : Int) := by decide +kernel
theorem zke_at : ∀ k, k < 16 → zki (zke.getD k 0) zke 0 = (k : Int) := by decide +kernel
theorem zkd_r : ∀ k, k < 16 → 0 < zkd.getD k 0 ∧ zkd.getD k 0 < 1099511627776 := by decide +kernel
theorem zki_r {x : Int} : -1 ≤ zki x zkd 0 ∧ zki x zkd 0 ≤ 15 := by
  by_cases h : ∃ k, k < 16 ∧ zkd.getD k 0 = x
  · obtain ⟨k, hk, rfl⟩ := h; rw [zkd_at k hk]; omega
  · rw [zki_no zkd 0 (fun j hj e => h ⟨j, hj, e⟩)]; decide
/-- running along the words -/
def zspl : Nat → Nat × Int
  | 0 => (0, 0)
  | i + 1 => match zspl i with
    | (a, v) => if zlt_ i = 32 then (a + 1, 0) else (a, v * 32 + (zlt_ i - 97 + 1))
theorem zspl_s (i : Nat) : zspl (i + 1) = if zlt_ i = 32 then ((zspl i).1 + 1, 0) else ((zspl i).1, (zspl i).2 * 32 + (zlt_ i - 97 + 1)) := rfl
theorem zspl_at : ∀ j, j < 76 → zlt_ j = 32 → (zspl j).1 < 16 ∧ zkd.getD (zspl j).1 0 = (zspl j).2 := by decide +kernel
theorem zspl_all : ∀ k, k < 16 → ∃ j, j < 76 ∧ zlt_ j = 32 ∧ (zspl j).1 = k := by decide +kernel
theorem zspl_r : ∀ j, j < 77 → (zspl j).1 ≤ 16 ∧ 0 ≤ (zspl j).2 ∧ (zspl j).2 < 1099511627776 := by decide +kernel

theorem c_Rd_withLetter {G : zG} {n : Nat} {σ : zSt} {v x : Int} (hx : 0 ≤ x ∧ x ≤ 255) : Gm G y_Rd_withLetter m_Rd_withLetter 0 0 0 [vl v, vi x] n SH σ (zL n SH (fun a σ' => a = v * 32 + (x - 97 + 1) ∧ σ' = σ)) := by
  refine g_enter (L := [(0, _), (2, _)]) (by decide) rfl rfl rfl (Nat.le_of_ble_eq_true rfl) (fun X => ?_)
  refine g_lload_n (i := 0) (by decide +kernel) rfl ?_
  refine g_ldc2 (x := 199) (a := 32) (by decide +kernel) c_Rd_199 (by decide) ?_
  refine g_lmul (by decide +kernel) ?_
  refine g_iload_n (i := 2) (by decide +kernel) rfl ?_
  refine g_bipush (a := 97) (by decide +kernel) (by decide) ?_
  refine g_isub (by decide +kernel) ?_
  refine g_iconst (a := 1) (by decide +kernel) ?_
  refine g_iadd (by decide +kernel) ?_
  refine g_i2l (by decide +kernel) ⟨by omega, by omega⟩ ?_
  refine g_ladd (by decide +kernel) ?_
  refine g_retL (by decide +kernel) rfl ⟨by decide, by decide⟩ ?_
  exact ⟨rfl, rfl⟩
theorem w_Rd_wordNumber {G : zG} {X : zX} {n : Nat} {σ : zSt} (hn : 189 ≤ n) (hx : zrl (σ 179 7))  : ∀ (m : Nat) (i : Nat) (x1 x2 x4 : Int), x4 = (i : Int) → x1 = ((zspl i).1 : Int) → x2 = (zspl i).2 → (∀ j, j < i → zlt_ j = 32 → (zspl j).2 ≠ σ 179 7) → i ≤ 76 → 76 < i + m → Go G X m_Rd_wordNumber (4, 0, 0, 0, 0) n SH σ 31 [(0, vr G 179), (1, vi x1), (2, vl x2), (4, vi x4)] [] (zI n SH (fun a σ' => a = zki (σ 179 7) zkd 0 ∧ σ' = σ)) := by
  intro m
  induction m with
  | zero => intro i x1 x2 x4 e4 e1 e2 hno hi hm; exact absurd hm (by omega)
  | succ m ih =>
    intro i x1 x2 x4 e4 e1 e2 hno hi hm
    subst e4 e1 e2
    have hr := zspl_r i (by omega)
    refine g_iload (i := 4) (by decide +kernel) rfl ?_
    refine g_ldcS rfl (by decide +kernel) ?_
    refine g_cTI (st := _) c_St_length k_St_length l_Rd_187 (by decide +kernel) rfl rfl rfl (Nat.le_of_ble_eq_true rfl) (by decide) ⟨by decide, by decide⟩ ?_
    rintro a9 σ9 ⟨rfl, hσ9⟩
    obtain rfl := hσ9.symm
    refine g_icmp_ge (off := 51) (tgt := 89) (by decide +kernel) (by decide) ⟨by omega, by omega⟩ ⟨by omega, by omega⟩ (fun h38 => ?_) (fun h38 => ?_)
    · refine g_iconst (a := -1) (by decide +kernel) ?_
      refine g_retI (by decide +kernel) rfl (Or.inl rfl) ⟨by decide, by decide⟩ ?_
      refine ⟨(zki_no zkd 0 (fun k hk e => ?_)).symm, rfl⟩
      obtain ⟨j, j1, j2, j3⟩ := zspl_all k hk
      have q := zspl_at j j1 j2
      rw [j3] at q
      exact hno j (by omega) j2 (by rw [← q.2]; exact e)
    · have hl := zltr_ i (by omega)
      have es := zspl_s i
      refine g_ldcS rfl (by decide +kernel) ?_
      refine g_iload (i := 4) (by decide +kernel) rfl ?_
      refine g_cTI (st := _) (c_St_charAt (j := i) (by omega)) k_St_charAt l_Rd_191 (by decide +kernel) rfl rfl rfl (Nat.le_of_ble_eq_true rfl) (by decide) ⟨by decide, by decide⟩ ?_
      rintro a9 σ9 ⟨rfl, hσ9⟩
      obtain rfl := hσ9.symm
      refine g_istore (i := 5) (L' := [(0, _), (1, _), (2, _), (4, _), (5, _)]) (by decide +kernel) rfl rfl ?_
      refine g_iload (i := 5) (by decide +kernel) rfl ?_
      refine g_bipush (a := 32) (by decide +kernel) (by decide) ?_
      refine g_icmp_eq (off := 13) (tgt := 67) (by decide +kernel) (by decide) ⟨by omega, by omega⟩ ⟨by omega, by omega⟩ (fun h54 => ?_) (fun h54 => ?_)
      · refine g_lload_n (i := 2) (by decide +kernel) rfl ?_
        refine g_aload_n (i := 0) (by decide +kernel) rfl ?_
        refine g_getl f_Rd_117 (by decide +kernel) (by omega) rfl rfl ?_
        refine g_lcmp (by decide +kernel) ⟨by omega, by omega⟩ ⟨by omega, by omega⟩ ?_
        refine g_if_ne (off := 5) (tgt := 78) (by decide +kernel) (by decide) zcmp_r (fun h73 => ?_) (fun h73 => ?_)
        · have h73 := zcmp_ne.mp h73
          refine g_iinc (i := 1) (b := 1) (L' := [(0, _), (1, _), (2, _), (4, _), (5, _)]) (by decide +kernel) rfl rfl rfl ?_
          refine g_lconst (c := 0) (a := 0) (by decide +kernel) (by decide) ?_
          refine g_lstore_n (i := 2) (L' := [(0, _), (1, _), (2, _), (4, _), (5, _)]) (by decide +kernel) rfl rfl ?_
          refine g_iinc (i := 4) (b := 1) (L' := [(0, _), (1, _), (2, _), (4, _), (5, _)]) (by decide +kernel) rfl rfl rfl ?_
          refine g_goto (off := -55) (tgt := 31) (by decide +kernel) (by decide) ?_
          refine g_less [0, 1, 2, 3] rfl ?_
          first
            | (have hz : zlt_ i ≠ 32 := h54
               rw [if_neg hz] at es
               exact ih (i + 1) ((zspl i).1 : Int) ((zspl i).2 * 32 + (zlt_ i - 97 + 1)) _ (by push_cast; rfl) (by rw [es]) (by rw [es]) (fun j hj hs => by
                 rcases Nat.lt_or_ge j i with q | q
                 · exact hno j q hs
                 · have e : j = i := by omega
                   rw [e] at hs; exact absurd hs hz) (by omega) (by omega))
            | (have hz : zlt_ i = 32 := h54
               rw [if_pos hz] at es
               exact ih (i + 1) (((zspl i).1 : Int) + 1) 0 _ (by push_cast; rfl) (by rw [es]; try (push_cast; rfl)) (by rw [es]) (fun j hj hs => by
                 rcases Nat.lt_or_ge j i with q | q
                 · exact hno j q hs
                 · have e : j = i := by omega
                   rw [e]; exact h73) (by omega) (by omega))
        · have h73 := zcmp_eq.mp h73
          refine g_iload_n (i := 1) (by decide +kernel) rfl ?_
          refine g_retI (by decide +kernel) rfl (Or.inl rfl) ⟨by decide, by decide⟩ ?_
          have q := zspl_at i (by omega) h54
          refine ⟨?_, rfl⟩
          have e : σ 179 7 = zkd.getD (zspl i).1 0 := by rw [q.2]; exact h73.symm
          rw [e, zkd_at _ q.1]
      · refine g_lload_n (i := 2) (by decide +kernel) rfl ?_
        refine g_iload (i := 5) (by decide +kernel) rfl ?_
        refine g_cSL (st := _) (c_Rd_withLetter ⟨by omega, by omega⟩) k_Rd_withLetter l_Rd_195 (by decide +kernel) rfl rfl (Nat.le_of_ble_eq_true rfl) (by decide) ⟨by decide, by decide⟩ ?_
        rintro a8 σ8 ⟨ea8, hσ8⟩
        obtain rfl := hσ8.symm
        subst ea8
        refine g_lstore_n (i := 2) (L' := [(0, _), (1, _), (2, _), (4, _), (5, _)]) (by decide +kernel) rfl rfl ?_
        refine g_goto (off := 19) (tgt := 83) (by decide +kernel) (by decide) ?_
        refine g_iinc (i := 4) (b := 1) (L' := [(0, _), (1, _), (2, _), (4, _), (5, _)]) (by decide +kernel) rfl rfl rfl ?_
        refine g_goto (off := -55) (tgt := 31) (by decide +kernel) (by decide) ?_
        refine g_less [0, 1, 2, 3] rfl ?_
        first
          | (have hz : zlt_ i ≠ 32 := h54
             rw [if_neg hz] at es
             exact ih (i + 1) ((zspl i).1 : Int) ((zspl i).2 * 32 + (zlt_ i - 97 + 1)) _ (by push_cast; rfl) (by rw [es]) (by rw [es]) (fun j hj hs => by
               rcases Nat.lt_or_ge j i with q | q
               · exact hno j q hs
               · have e : j = i := by omega
                 rw [e] at hs; exact absurd hs hz) (by omega) (by omega))
          | (have hz : zlt_ i = 32 := h54
             rw [if_pos hz] at es
             exact ih (i + 1) (((zspl i).1 : Int) + 1) 0 _ (by push_cast; rfl) (by rw [es]; try (push_cast; rfl)) (by rw [es]) (fun j hj hs => by
               rcases Nat.lt_or_ge j i with q | q
               · exact hno j q hs
               · have e : j = i := by omega
                 rw [e]; exact h73) (by omega) (by omega))
theorem c_Rd_wordNumber {G : zG} {n : Nat} {σ : zSt} (hn : 189 ≤ n) (t4 : 0 ≤ σ 179 4 ∧ σ 179 4 ≤ 4) (t5 : 0 ≤ σ 179 5 ∧ σ 179 5 ≤ 600) (t6 : 0 ≤ σ 179 6 ∧ σ 179 6 ≤ 600) (t7 : σ 179 4 = 2 ∧ σ 179 6 - σ 179 5 ≤ 8 → zrl (σ 179 7))  : Gm G y_Rd_wordNumber m_Rd_wordNumber 4 0 0 [vr G 179] n SH σ (zI n SH (fun a σ' => a = (if σ 179 4 = 2 ∧ σ 179 6 - σ 179 5 ≤ 8 then zki (σ 179 7) zkd 0 else -1) ∧ σ' = σ)) := by
  refine g_enter (L := [(0, _)]) (by decide) rfl rfl rfl (Nat.le_of_ble_eq_true rfl) (fun X => ?_)
  refine g_aload_n (i := 0) (by decide +kernel) rfl ?_
  refine g_geti f_Rd_61 (by decide +kernel) (by omega) rfl rfl ?_
  refine g_iconst (a := 2) (by decide +kernel) ?_
  refine g_icmp_ne (off := 17) (tgt := 22) (by decide +kernel) (by decide) ⟨by omega, by omega⟩ ⟨by omega, by omega⟩ (fun h5 => ?_) (fun h5 => ?_)
  · refine g_iconst (a := -1) (by decide +kernel) ?_
    refine g_retI (by decide +kernel) rfl (Or.inl rfl) ⟨by decide, by decide⟩ ?_
    exact ⟨by rw [if_neg (by omega)], rfl⟩
  · refine g_aload_n (i := 0) (by decide +kernel) rfl ?_
    refine g_geti f_Rd_34 (by decide +kernel) (by omega) rfl rfl ?_
    refine g_aload_n (i := 0) (by decide +kernel) rfl ?_
    refine g_geti f_Rd_182 (by decide +kernel) (by omega) rfl rfl ?_
    refine g_isub (by decide +kernel) ?_
    refine g_bipush (a := 8) (by decide +kernel) (by decide) ?_
    refine g_icmp_le (off := 5) (tgt := 24) (by decide +kernel) (by decide) ⟨by omega, by omega⟩ ⟨by omega, by omega⟩ (fun h19 => ?_) (fun h19 => ?_)
    · refine g_iconst (a := 0) (by decide +kernel) ?_
      refine g_istore_n (i := 1) (L' := [(0, _), (1, _)]) (by decide +kernel) rfl rfl ?_
      refine g_lconst (c := 0) (a := 0) (by decide +kernel) (by decide) ?_
      refine g_lstore_n (i := 2) (L' := [(0, _), (1, _), (2, _)]) (by decide +kernel) rfl rfl ?_
      refine g_iconst (a := 0) (by decide +kernel) ?_
      refine g_istore (i := 4) (L' := [(0, _), (1, _), (2, _), (4, _)]) (by decide +kernel) rfl rfl ?_
      rw [if_pos ⟨by omega, by omega⟩]
      exact w_Rd_wordNumber hn (t7 ⟨by omega, by omega⟩) 77 0 _ _ _ rfl rfl rfl (fun j hj => absurd hj (by omega)) (by omega) (by omega)
    · refine g_iconst (a := -1) (by decide +kernel) ?_
      refine g_retI (by decide +kernel) rfl (Or.inl rfl) ⟨by decide, by decide⟩ ?_
      exact ⟨by rw [if_neg (by omega)], rfl⟩
theorem c_Rd_isName {G : zG} {n : Nat} {σ : zSt} (hn : 189 ≤ n) (t4 : 0 ≤ σ 179 4 ∧ σ 179 4 ≤ 4) (t5 : 0 ≤ σ 179 5 ∧ σ 179 5 ≤ 600) (t6 : 0 ≤ σ 179 6 ∧ σ 179 6 ≤ 600) (t7 : σ 179 4 = 2 ∧ σ 179 6 - σ 179 5 ≤ 8 → zrl (σ 179 7))  : Gm G y_Rd_isName m_Rd_isName 5 0 0 [vr G 179] n SH σ (zI n SH (fun a σ' => a = (if σ 179 4 = 2 ∧ σ 179 6 - σ 179 5 ≤ 8 ∧ zki (σ 179 7) zkd 0 = -1 then 1 else 0) ∧ σ' = σ)) := by
  refine g_enter (L := [(0, _)]) (by decide) rfl rfl rfl (Nat.le_of_ble_eq_true rfl) (fun X => ?_)
  refine g_aload_n (i := 0) (by decide +kernel) rfl ?_
  refine g_geti f_Rd_61 (by decide +kernel) (by omega) rfl rfl ?_
  refine g_iconst (a := 2) (by decide +kernel) ?_
  refine g_icmp_ne (off := 29) (tgt := 34) (by decide +kernel) (by decide) ⟨by omega, by omega⟩ ⟨by omega, by omega⟩ (fun h5 => ?_) (fun h5 => ?_)
  · refine g_iconst (a := 0) (by decide +kernel) ?_
    refine g_retI (by decide +kernel) rfl (Or.inr ⟨rfl, by omega⟩) ⟨by decide, by decide⟩ ?_
    exact ⟨by first | rw [if_pos ⟨by omega, by omega, by omega⟩] | rw [if_neg (by omega)], rfl⟩
  · refine g_aload_n (i := 0) (by decide +kernel) rfl ?_
    refine g_geti f_Rd_34 (by decide +kernel) (by omega) rfl rfl ?_
    refine g_aload_n (i := 0) (by decide +kernel) rfl ?_
    refine g_geti f_Rd_182 (by decide +kernel) (by omega) rfl rfl ?_
    refine g_isub (by decide +kernel) ?_
    refine g_bipush (a := 8) (by decide +kernel) (by decide) ?_
    refine g_icmp_gt (off := 15) (tgt := 34) (by decide +kernel) (by decide) ⟨by omega, by omega⟩ ⟨by omega, by omega⟩ (fun h19 => ?_) (fun h19 => ?_)
    · refine g_iconst (a := 0) (by decide +kernel) ?_
      refine g_retI (by decide +kernel) rfl (Or.inr ⟨rfl, by omega⟩) ⟨by decide, by decide⟩ ?_
      exact ⟨by first | rw [if_pos ⟨by omega, by omega, by omega⟩] | rw [if_neg (by omega)], rfl⟩
    · refine g_aload_n (i := 0) (by decide +kernel) rfl ?_
      refine g_cVI (st := _) (c_Rd_wordNumber hn t4 t5 t6 t7) k_Rd_wordNumber l_Rd_96 (by decide +kernel) (by omega) rfl rfl rfl rfl (Nat.le_of_ble_eq_true rfl) (by decide) ⟨by decide, by decide⟩ ?_
      rintro a9 σ9 ⟨ea9, hσ9⟩
      obtain rfl := hσ9.symm
      rw [if_pos ⟨by omega, by omega⟩] at ea9
      have kr := @zki_r (σ 179 7)
      refine g_iconst (a := -1) (by decide +kernel) ?_
      refine g_icmp_ne (off := 7) (tgt := 34) (by decide +kernel) (by decide) ⟨by omega, by omega⟩ ⟨by omega, by omega⟩ (fun h27 => ?_) (fun h27 => ?_)
      · refine g_iconst (a := 0) (by decide +kernel) ?_
        refine g_retI (by decide +kernel) rfl (Or.inr ⟨rfl, by omega⟩) ⟨by decide, by decide⟩ ?_
        exact ⟨by first | rw [if_pos ⟨by omega, by omega, by omega⟩] | rw [if_neg (by omega)], rfl⟩
      · refine g_iconst (a := 1) (by decide +kernel) ?_
        refine g_goto (off := 4) (tgt := 35) (by decide +kernel) (by decide) ?_
        refine g_retI (by decide +kernel) rfl (Or.inr ⟨rfl, by omega⟩) ⟨by decide, by decide⟩ ?_
        exact ⟨by first | rw [if_pos ⟨by omega, by omega, by omega⟩] | rw [if_neg (by omega)], rfl⟩
theorem c_Rd_isSign {G : zG} {n : Nat} {σ : zSt} {x : Int} (hn : 189 ≤ n) (hx : zr x) (t4 : 0 ≤ σ 179 4 ∧ σ 179 4 ≤ 4) (t7 : σ 179 4 = 4 → zrl (σ 179 7))  : Gm G y_Rd_isSign m_Rd_isSign 0 0 0 [vr G 179, vi x] n SH σ (zI n SH (fun a σ' => a = (if σ 179 4 = 4 ∧ σ 179 7 = x then 1 else 0) ∧ σ' = σ)) := by
  refine g_enter (L := [(0, _), (1, _)]) (by decide) rfl rfl rfl (Nat.le_of_ble_eq_true rfl) (fun X => ?_)
  refine g_aload_n (i := 0) (by decide +kernel) rfl ?_
  refine g_geti f_Rd_61 (by decide +kernel) (by omega) rfl rfl ?_
  refine g_iconst (a := 4) (by decide +kernel) ?_
  refine g_icmp_ne (off := 17) (tgt := 22) (by decide +kernel) (by decide) ⟨by omega, by omega⟩ ⟨by omega, by omega⟩ (fun h5 => ?_) (fun h5 => ?_)
  · refine g_iconst (a := 0) (by decide +kernel) ?_
    refine g_retI (by decide +kernel) rfl (Or.inr ⟨rfl, by omega⟩) ⟨by decide, by decide⟩ ?_
    exact ⟨by first | rw [if_pos ⟨by omega, by omega⟩] | rw [if_neg (by omega)], rfl⟩
  · refine g_aload_n (i := 0) (by decide +kernel) rfl ?_
    refine g_getl f_Rd_117 (by decide +kernel) (by omega) rfl rfl ?_
    refine g_iload_n (i := 1) (by decide +kernel) rfl ?_
    refine g_i2l (by decide +kernel) ⟨by omega, by omega⟩ ?_
    refine g_lcmp (by decide +kernel) (t7 (by omega)) ⟨by omega, by omega⟩ ?_
    refine g_if_ne (off := 7) (tgt := 22) (by decide +kernel) (by decide) zcmp_r (fun h15 => ?_) (fun h15 => ?_)
    · have h15 := zcmp_ne.mp h15
      refine g_iconst (a := 0) (by decide +kernel) ?_
      refine g_retI (by decide +kernel) rfl (Or.inr ⟨rfl, by omega⟩) ⟨by decide, by decide⟩ ?_
      exact ⟨by first | rw [if_pos ⟨by omega, by omega⟩] | rw [if_neg (by omega)], rfl⟩
    · have h15 := zcmp_eq.mp h15
      refine g_iconst (a := 1) (by decide +kernel) ?_
      refine g_goto (off := 4) (tgt := 23) (by decide +kernel) (by decide) ?_
      refine g_retI (by decide +kernel) rfl (Or.inr ⟨rfl, by omega⟩) ⟨by decide, by decide⟩ ?_
      exact ⟨by first | rw [if_pos ⟨by omega, by omega⟩] | rw [if_neg (by omega)], rfl⟩
theorem c_Rd_failWith {G : zG} {n : Nat} {σ : zSt} {k : Int} (hn : 189 ≤ n)  : Gm G y_Rd_failWith m_Rd_failWith 0 0 0 [vr G 179, vi k] n SH σ (zI n SH (fun a σ' => a = 0 ∧ σ' = zs (zs σ 179 13 k) 179 14 (σ 179 5))) := by
  refine g_enter (L := [(0, _), (1, _)]) (by decide) rfl rfl rfl (Nat.le_of_ble_eq_true rfl) (fun X => ?_)
  refine g_aload_n (i := 0) (by decide +kernel) rfl ?_
  refine g_iload_n (i := 1) (by decide +kernel) rfl ?_
  refine g_puti f_Rd_43 (by decide +kernel) (by omega) rfl rfl ?_
  refine g_aload_n (i := 0) (by decide +kernel) rfl ?_
  refine g_aload_n (i := 0) (by decide +kernel) rfl ?_
  refine g_geti f_Rd_182 (by decide +kernel) (by omega) rfl rfl ?_
  refine g_puti f_Rd_46 (by decide +kernel) (by omega) rfl rfl ?_
  refine g_iconst (a := 0) (by decide +kernel) ?_
  refine g_retI (by decide +kernel) rfl (Or.inr ⟨rfl, by omega⟩) ⟨by decide, by decide⟩ ?_
  exact ⟨rfl, rfl⟩
theorem c_Rd_cannotStand {G : zG} {n : Nat} {σ : zSt} (hn : 189 ≤ n) (t4 : 0 ≤ σ 179 4 ∧ σ 179 4 ≤ 4)  : Gm G y_Rd_cannotStand m_Rd_cannotStand 1 0 0 [vr G 179] n SH σ (zI n SH (fun a σ' => a = 0 ∧ σ' = zs (zs σ 179 13 (if σ 179 4 = 1 then 1 else 2)) 179 14 (σ 179 5))) := by
  refine g_enter (L := [(0, _)]) (by decide) rfl rfl rfl (Nat.le_of_ble_eq_true rfl) (fun X => ?_)
  refine g_aload_n (i := 0) (by decide +kernel) rfl ?_
  refine g_aload_n (i := 0) (by decide +kernel) rfl ?_
  refine g_geti f_Rd_61 (by decide +kernel) (by omega) rfl rfl ?_
  refine g_iconst (a := 1) (by decide +kernel) ?_
  refine g_icmp_ne (off := 7) (tgt := 13) (by decide +kernel) (by decide) ⟨by omega, by omega⟩ ⟨by omega, by omega⟩ (fun h6 => ?_) (fun h6 => ?_)
  · refine g_iconst (a := 2) (by decide +kernel) ?_
    refine g_cVI (st := _) (c_Rd_failWith hn) k_Rd_failWith l_Rd_93 (by decide +kernel) (by omega) rfl rfl rfl rfl (Nat.le_of_ble_eq_true rfl) (by decide) ⟨by decide, by decide⟩ ?_
    rintro a9 σ9 ⟨ea9, hσ9⟩
    subst ea9
    subst hσ9
    refine g_retI (by decide +kernel) rfl (Or.inr ⟨rfl, by omega⟩) ⟨by decide, by decide⟩ ?_
    first | (rw [if_pos (by omega)]; exact ⟨rfl, rfl⟩) | (rw [if_neg (by omega)]; exact ⟨rfl, rfl⟩)
  · refine g_iconst (a := 1) (by decide +kernel) ?_
    refine g_goto (off := 4) (tgt := 14) (by decide +kernel) (by decide) ?_
    refine g_cVI (st := _) (c_Rd_failWith hn) k_Rd_failWith l_Rd_93 (by decide +kernel) (by omega) rfl rfl rfl rfl (Nat.le_of_ble_eq_true rfl) (by decide) ⟨by decide, by decide⟩ ?_
    rintro a9 σ9 ⟨ea9, hσ9⟩
    subst ea9
    subst hσ9
    refine g_retI (by decide +kernel) rfl (Or.inr ⟨rfl, by omega⟩) ⟨by decide, by decide⟩ ?_
    first | (rw [if_pos (by omega)]; exact ⟨rfl, rfl⟩) | (rw [if_neg (by omega)]; exact ⟨rfl, rfl⟩)
