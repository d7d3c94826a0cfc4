/-! READING in the reference: what its cells say -/
/-- what reading leaves alone -/
def zFrM (σ0 σ : zSt) : Prop := (∀ a, a ≠ 189 → a ≠ 190 → a ≠ 198 → a ≠ 199 → a ≠ 200 → σ a = σ0 a) ∧ (∀ j, j < 1746 → σ 190 j = σ0 190 j) ∧ ∀ j, (j < 14 ∨ 21 < j ∨ j = 20) → σ 189 j = σ0 189 j
theorem zFrM.rf (σ : zSt) : zFrM σ σ := ⟨fun _ _ _ _ _ _ => rfl, fun _ _ => rfl, fun _ _ => rfl⟩
theorem zFrM.put {σ0 σ : zSt} {j : Nat} {v : Int} (h : zFrM σ0 σ) (hj : 14 ≤ j ∧ j ≤ 21 ∧ j ≠ 20) : zFrM σ0 (zs σ 189 j v) := ⟨fun a h1 h2 h3 h4 h5 => by rw [zs_other h1]; exact h.1 a h1 h2 h3 h4 h5, fun i hi => by rw [zs_other (by decide)]; exact h.2.1 i hi, fun i hi => by rw [zs_ne (by omega)]; exact h.2.2 i hi⟩
theorem zFrM.drf {σ0 σ : zSt} {j : Nat} {v : Int} (h : zFrM σ0 σ) (hj : 1746 ≤ j) : zFrM σ0 (zs σ 190 j v) := ⟨fun a h1 h2 h3 h4 h5 => by rw [zs_other h2]; exact h.1 a h1 h2 h3 h4 h5, fun i hi => by rw [zs_ne (by omega)]; exact h.2.1 i hi, fun i hi => by rw [zs_other (by decide)]; exact h.2.2 i hi⟩
theorem zFrM.oth {σ0 σ : zSt} {a j : Nat} {v : Int} (h : zFrM σ0 σ) (ha : a = 198 ∨ a = 199 ∨ a = 200) : zFrM σ0 (zs σ a j v) := ⟨fun q h1 h2 h3 h4 h5 => by rw [zs_other (by omega)]; exact h.1 q h1 h2 h3 h4 h5, fun i hi => by rw [zs_other (by omega)]; exact h.2.1 i hi, fun i hi => by rw [zs_other (by omega)]; exact h.2.2 i hi⟩
theorem zFrM.tk {σ0 σ τ : zSt} (h : zFrM σ0 σ) (g : zTqM σ τ) : zFrM σ0 τ := ⟨fun a h1 h2 h3 h4 h5 => by rw [g.1 a h1]; exact h.1 a h1 h2 h3 h4 h5, fun j hj => by rw [g.1 190 (by decide)]; exact h.2.1 j hj, fun j hj => by rw [g.2 j (by omega) (by omega) (by omega) (by omega) (by omega)]; exact h.2.2 j hj⟩
/-- the token at q -/
def zTwM (b : Nat → Int) (n0 q : Nat) (σ : zSt) : Prop := σ 189 16 = (q : Int) ∧ σ 189 18 = zsrt (zTt b n0 q) ∧ σ 189 17 = (if n0 ≤ q then (q : Int) + 1 else (zTb b n0 q : Int)) ∧ (zTt b n0 q = 2 → σ 189 21 = zfo 27 96 b q (min (zrn (zql b) n0 q - q) 9)) ∧ (zTt b n0 q = 3 → σ 189 19 = zTs b n0 q)
/-- the tape, its end, the words -/
def zR0 (b : Nat → Int) (n0 : Nat) (σ0 : zSt) : Prop := zBm b (σ0 196) ∧ σ0 189 20 = (n0 : Int) ∧ ∀ k, k < 16 → σ0 197 k = zke.getD k 0
/-- a fault stands there -/
def zRft (σ0 : zSt) (f : Int × Nat) (σ : zSt) : Prop := (1 ≤ f.1 ∧ f.1 ≤ 8) ∧ σ 189 14 = f.1 ∧ σ 189 15 = (f.2 : Int) ∧ (0 ≤ σ 190 1746 ∧ σ 190 1746 ≤ 12) ∧ zFrM σ0 σ
/-- no fault yet, the token at q -/
def zRq0 (b : Nat → Int) (n0 : Nat) (σ0 : zSt) (q : Nat) (σ : zSt) : Prop := σ 189 14 = 0 ∧ zTwM b n0 q σ ∧ (0 ≤ σ 190 1746 ∧ σ 190 1746 ≤ 12) ∧ zFrM σ0 σ
/-- the cells say A; the names of the first K clips stand -/
def zRrK (b : Nat → Int) (n0 : Nat) (σ0 : zSt) (K : Nat) (A : zAb) (σ : zSt) : Prop := zRq0 b n0 σ0 A.q σ ∧ ((∀ i, i < K → zNme (A.nm i) (σ 198 i)) ∧ ∀ i, i < zN A.D → zby (A.D 4 i) = true → zNme (A.sn i) (σ 199 i)) ∧ (A.mk ≠ -1 → σ 200 A.mk.toNat * 8 = (A.td : Int)) ∧ zEqv A.D (zMw (σ 190) 1746)
def zRr (b : Nat → Int) (n0 : Nat) (σ0 : zSt) (A : zAb) (σ : zSt) : Prop := zRrK b n0 σ0 (zN A.D) A σ
def zRg (b : Nat → Int) (n0 : Nat) (σ0 : zSt) (r : (Int × Nat) ⊕ zAb) (σ' : zSt) : Prop := match r with
  | .inl f => zRft σ0 f σ'
  | .inr A => zRr b n0 σ0 A σ' ∧ zAi n0 A
section RR
variable {b : Nat → Int} {n0 q : Nat} {σ0 σ τ : zSt}
theorem zR0.bm (h : zR0 b n0 σ0) (g : zFrM σ0 σ) : zBm b (σ 196) := by rw [g.1 196 (by decide) (by decide) (by decide) (by decide) (by decide)]; exact h.1
theorem zR0.end (h : zR0 b n0 σ0) (g : zFrM σ0 σ) : σ 189 20 = (n0 : Int) := by rw [g.2.2 20 (by decide)]; exact h.2.1
theorem zR0.wd (h : zR0 b n0 σ0) (g : zFrM σ0 σ) : ∀ k, k < 16 → σ 197 k = zke.getD k 0 := by rw [g.1 197 (by decide) (by decide) (by decide) (by decide) (by decide)]; exact h.2.2
theorem zsrt_r (t : Int) : 0 ≤ zsrt t ∧ zsrt t ≤ 4 := by unfold zsrt; split; decide; split; decide; split; decide; split; decide; decide
theorem zsrt_1 (h : 0 ≤ zTt b n0 q ∧ zTt b n0 q ≤ 4) : zsrt (zTt b n0 q) = 1 ↔ zTt b n0 q = 2 := by
  unfold zsrt
  repeat' split
  all_goals omega
theorem zsrt_2 (h : 0 ≤ zTt b n0 q ∧ zTt b n0 q ≤ 4) : zsrt (zTt b n0 q) = 2 ↔ zTt b n0 q = 3 := by
  unfold zsrt
  repeat' split
  all_goals omega
theorem zsrt_3 (h : 0 ≤ zTt b n0 q ∧ zTt b n0 q ≤ 4) : zsrt (zTt b n0 q) = 3 ↔ zTt b n0 q = 4 := by
  unfold zsrt
  repeat' split
  all_goals omega
theorem zsrt_4 (h : 0 ≤ zTt b n0 q ∧ zTt b n0 q ≤ 4) : zsrt (zTt b n0 q) = 4 ↔ zTt b n0 q = 1 := by
  unfold zsrt
  repeat' split
  all_goals omega
theorem zsrt_0 (h : 0 ≤ zTt b n0 q ∧ zTt b n0 q ≤ 4) : zsrt (zTt b n0 q) = 0 ↔ zTt b n0 q = 0 := by
  unfold zsrt
  repeat' split
  all_goals omega
theorem zTkM.tw {p : Nat} (h : zTkM σ τ b n0 p) : zTwM b n0 (zrn (zqs b) n0 p) τ := by
  obtain ⟨h1, h2, h3, h4, h5, h6⟩ := h
  refine ⟨h2, h3, h4, fun e => ?_, fun e => ?_⟩
  · rw [h5, if_pos (zTt_w e)]
  · obtain ⟨e1, e2, e3, e4⟩ := zTt_n e
    rw [h6, if_pos ⟨e1, e3⟩, (zTs_n e).2, show min (zrn (zqd b) n0 (zrn (zqs b) n0 p) - zrn (zqs b) n0 p) 4 = zrn (zqd b) n0 (zrn (zqs b) n0 p) - zrn (zqs b) n0 p by omega]
/-- the next token -/
theorem zRq0.nx (h : zRq0 b n0 σ0 q σ) (g : zTkM σ τ b n0 (zTb b n0 q)) : zRq0 b n0 σ0 (znx b n0 q) τ := ⟨by rw [g.1.2 14 (by decide) (by decide) (by decide) (by decide) (by decide)]; exact h.1, g.tw, by rw [g.1.1 190 (by decide)]; exact h.2.2.1, h.2.2.2.tk g.1⟩
theorem zRrK.nx {K : Nat} {A : zAb} (h : zRrK b n0 σ0 K A σ) (g : zTkM σ τ b n0 (zTb b n0 A.q)) : zRrK b n0 σ0 K (zAm (znx b n0 A.q) A.D A.nm A.sn A.td A.op A.mk) τ := ⟨h.1.nx g, ⟨fun i hi => by rw [g.1.1 198 (by decide)]; exact h.2.1.1 i hi, fun i hi => by rw [g.1.1 199 (by decide)]; exact h.2.1.2 i hi⟩, fun e => by rw [g.1.1 200 (by decide)]; exact h.2.2.1 e, by rw [g.1.1 190 (by decide)]; exact h.2.2.2⟩
/-- a fault is set -/
theorem zRq0.fl {k : Int} (h : zRq0 b n0 σ0 q σ) (hk : 1 ≤ k ∧ k ≤ 8) : zRft σ0 (if k = 2 then zcs b n0 q else k, q) (zfl σ k) := by
  obtain ⟨h1, h2, h3, h4⟩ := h
  have tr := zTt_r (b := b) (n0 := n0) (q := q)
  have cr := zcs_r (b := b) (n0 := n0) (q := q)
  unfold zfl
  rw [if_neg (show ¬ 0 < σ 189 14 by omega)]
  refine ⟨by show 1 ≤ (if k = 2 then zcs b n0 q else k) ∧ (if k = 2 then zcs b n0 q else k) ≤ 8; split <;> omega, ?_, by rw [zs_eq]; exact h2.1, by rw [zs_other (by decide), zs_other (by decide)]; exact h3, (h4.put (by decide)).put (by decide)⟩
  rw [zs_ne (by decide), zs_eq, h2.2.1]
  show _ = if k = 2 then zcs b n0 q else k
  unfold zcs
  have e := zsrt_4 tr
  by_cases k2 : k = 2
  · rw [if_pos k2]
    by_cases t1 : zTt b n0 q = 1
    · rw [if_pos ⟨k2, e.mpr t1⟩, if_pos t1]
    · rw [if_neg (fun y => t1 (e.mp y.2)), if_neg t1]; exact k2
  · rw [if_neg k2, if_neg (fun y => k2 y.1)]
theorem zRft.fl {f : Int × Nat} {k : Int} (h : zRft σ0 f σ) : zfl σ k = σ := by unfold zfl; rw [if_pos (by have := h.1; have := h.2.1; omega)]
theorem zRft.drf {f : Int × Nat} {j : Nat} {v : Int} (h : zRft σ0 f σ) (hj : 1746 < j) : zRft σ0 f (zs σ 190 j v) := ⟨h.1, by rw [zs_other (by decide)]; exact h.2.1, by rw [zs_other (by decide)]; exact h.2.2.1, by rw [zs_ne (by omega)]; exact h.2.2.2.1, h.2.2.2.2.drf (by omega)⟩
theorem zRft.oth {f : Int × Nat} {a j : Nat} {v : Int} (h : zRft σ0 f σ) (ha : a = 198 ∨ a = 199 ∨ a = 200) : zRft σ0 f (zs σ a j v) := ⟨h.1, by rw [zs_other (by omega)]; exact h.2.1, by rw [zs_other (by omega)]; exact h.2.2.1, by rw [zs_other (by omega)]; exact h.2.2.2.1, h.2.2.2.2.oth ha⟩
theorem zRq0.drf {j : Nat} {v : Int} (h : zRq0 b n0 σ0 q σ) (hj : 1746 < j) : zRq0 b n0 σ0 q (zs σ 190 j v) := by
  have e : (zs σ 190 j v) 189 = σ 189 := zs_other (by decide)
  exact ⟨by rw [e]; exact h.1, by unfold zTwM; rw [e]; exact h.2.1, by rw [zs_ne (by omega)]; exact h.2.2.1, h.2.2.2.drf (by omega)⟩
theorem zRq0.oth {a j : Nat} {v : Int} (h : zRq0 b n0 σ0 q σ) (ha : a = 198 ∨ a = 199 ∨ a = 200) : zRq0 b n0 σ0 q (zs σ a j v) := by
  have e : (zs σ a j v) 189 = σ 189 := zs_other (by omega)
  exact ⟨by rw [e]; exact h.1, by unfold zTwM; rw [e]; exact h.2.1, by rw [zs_other (by omega)]; exact h.2.2.1, h.2.2.2.oth ha⟩
theorem zrn_len (h : zTt b n0 q = 2) : ∀ j, j < zrn (zql b) n0 q - q → 97 ≤ b (q + j) ∧ b (q + j) ≤ 122 := fun j hj => zql_iff.mp (zrn_in (n := n0) (p := q) (by omega) (by omega))
/-- the reference's key of a word is the class's -/
theorem zkey (h : zTt b n0 q = 2) : zki (zfo 27 96 b q (min (zrn (zql b) n0 q - q) 9)) zke 0 = zkw b n0 q := by
  unfold zkw
  by_cases h8 : (zTb b n0 q : Int) - q ≤ 8
  · rw [if_pos ⟨h, h8⟩, (zTs_nme h h8).key]
  · rw [if_neg (fun y => h8 y.2)]
    rw [(zTs_w h).1] at h8
    rw [show min (zrn (zql b) n0 q - q) 9 = 9 by omega]
    exact zfo_long (fun j hj => zrn_len h j (by omega))
theorem zfo_r27 {f : Nat} : ∀ i : Nat, (∀ j, j < i → 97 ≤ b (f + j) ∧ b (f + j) ≤ 122) → 0 ≤ zfo 27 96 b f i ∧ zfo 27 96 b f i < 27 ^ i := by
  intro i
  induction i with
  | zero => intro _; exact ⟨Int.le_refl _, by show (0 : Int) < 27 ^ 0; decide⟩
  | succ i ih =>
    intro h
    have q := h i (by omega)
    have g := ih (fun j a => h j (by omega))
    rw [Int.pow_succ]
    show 0 ≤ zfo 27 96 b f i * 27 + (b (f + i) - 96) ∧ zfo 27 96 b f i * 27 + (b (f + i) - 96) < _
    omega
theorem zp27 : ∀ i, i ≤ 9 → (27 : Int) ^ i ≤ 7625597484987 := by decide
theorem zNme.r {x y : Int} (h : zNme x y) : 0 ≤ y ∧ y ≤ 7625597484987 := by
  obtain ⟨c, f, i, h0, h1, h2, h3⟩ := h
  have a1 := zfo_r27 (b := c) (f := f) i h1
  have a2 := zp27 i h0
  omega
theorem zw_r (h : zTt b n0 q = 2) : 0 ≤ zfo 27 96 b q (min (zrn (zql b) n0 q - q) 9) ∧ zfo 27 96 b q (min (zrn (zql b) n0 q - q) 9) ≤ 7625597484987 := by
  have a1 := zfo_r27 (b := b) (f := q) (min (zrn (zql b) n0 q - q) 9) (fun j hj => zrn_len h j (by omega))
  have a2 := zp27 (min (zrn (zql b) n0 q - q) 9) (by omega)
  omega
end RR
theorem vi_nm (x : Int) : ∃ y, zr y ∧ vi x = vi y ∧ (zr x → y = x) := by
  have h1 := Int32.toInt_lt (Int32.ofInt x)
  have h2 := Int32.le_toInt (Int32.ofInt x)
  refine ⟨(Int32.ofInt x).toInt, ⟨by omega, by omega⟩, ?_, fun h => zi_toInt h⟩
  show Value.int _ = Value.int _
  rw [Int32.ofInt_toInt]
theorem zfl_o {σ : zSt} {k : Int} {a j : Nat} (h : a ≠ 189 ∨ (j ≠ 14 ∧ j ≠ 15)) : zfl σ k a j = σ a j := by
  unfold zfl
  split
  · rfl
  · rw [zs_ne (by omega), zs_ne (by omega)]
/-- what a wish leaves, where a fault stands already -/
theorem zRft.wt {σ0 σ υ : zSt} {f : Int × Nat} {a k : Int} (h : zRft σ0 f σ) (e : υ = if a = 0 then zfl σ k else σ) : υ = σ := by
  rw [e]
  split
  · exact h.fl
  · rfl
theorem w_Md_key {G : zG} {X : zX} {n : Nat} {σ : zSt} {b : Nat → Int} {n0 q : Nat} {σ0 : zSt} (hn : 220 ≤ n) (h0 : zR0 b n0 σ0) (hn0 : n0 ≤ 600) (hR : zRq0 b n0 σ0 q σ)  : ∀ (m : Nat) (i : Nat) (x1 : Int), x1 = (i : Int) → i ≤ 16 → (∀ j, j < i → zke.getD j 0 ≠ σ 189 21) → 16 < i + m → Go G X m_Md_key (0, 0, 0, 0, 0) n SH σ 2 [(0, vr G 189), (1, vi x1)] [] (zI n SH (fun a σ' => a = zkw b n0 q ∧ σ' = σ)) := by
  intro m
  induction m with
  | zero => intro i x1 e1 hi hno hm; exact absurd hm (by omega)
  | succ m ih =>
    intro i x1 e1 hi hno hm
    subst e1
    have hR9 := hR
    obtain ⟨h14, ht, hc, hf⟩ := hR
    have hw := h0.wd hf
    have tr := zTt_r (b := b) (n0 := n0) (q := q)
    have sr := zsrt_r (zTt b n0 q)
    have e18 := ht.2.1
    refine g_iload_n (i := 1) (by decide +kernel) rfl ?_
    refine g_bipush (a := 16) (by decide +kernel) (by decide) ?_
    refine g_icmp_ge (off := 40) (tgt := 45) (by decide +kernel) (by decide) ⟨by omega, by omega⟩ ⟨by omega, by omega⟩ (fun h5 => ?_) (fun h5 => ?_)
    · refine g_iconst (a := -1) (by decide +kernel) ?_
      refine g_retI (by decide +kernel) rfl (Or.inl rfl) ⟨by decide, by decide⟩ ?_
      refine ⟨?_, rfl⟩
      by_cases t2 : zTt b n0 q = 2
      · have i16 : i = 16 := by
          have := (zsrt_1 tr).mpr t2
          omega
        rw [← zkey t2, ← ht.2.2.2.1 t2, zki_no zke 0 (fun j hj => hno j (by rw [i16]; exact hj))]
      · unfold zkw
        rw [if_neg (fun y => t2 y.1)]
    · refine g_aload_n (i := 0) (by decide +kernel) rfl ?_
      refine g_geti f_Md_213 (by decide +kernel) (by omega) rfl rfl ?_
      refine g_iconst (a := 1) (by decide +kernel) ?_
      refine g_icmp_ne (off := 32) (tgt := 45) (by decide +kernel) (by decide) ⟨by omega, by omega⟩ ⟨by omega, by omega⟩ (fun h13 => ?_) (fun h13 => ?_)
      · refine g_iconst (a := -1) (by decide +kernel) ?_
        refine g_retI (by decide +kernel) rfl (Or.inl rfl) ⟨by decide, by decide⟩ ?_
        refine ⟨?_, rfl⟩
        by_cases t2 : zTt b n0 q = 2
        · have i16 : i = 16 := by
            have := (zsrt_1 tr).mpr t2
            omega
          rw [← zkey t2, ← ht.2.2.2.1 t2, zki_no zke 0 (fun j hj => hno j (by rw [i16]; exact hj))]
        · unfold zkw
          rw [if_neg (fun y => t2 y.1)]
      · have t2 : zTt b n0 q = 2 := (zsrt_1 tr).mp (by omega)
        have wr := zw_r t2
        have e21 := ht.2.2.2.1 t2
        refine g_aload_n (i := 0) (by decide +kernel) rfl ?_
        refine g_geti f_Md_230 (by decide +kernel) (by omega) rfl rfl ?_
        refine g_if_ne (off := 25) (tgt := 45) (by decide +kernel) (by decide) ⟨by omega, by omega⟩ (fun h20 => ?_) (fun h20 => ?_)
        · refine g_iconst (a := -1) (by decide +kernel) ?_
          refine g_retI (by decide +kernel) rfl (Or.inl rfl) ⟨by decide, by decide⟩ ?_
          refine ⟨?_, rfl⟩
          by_cases t2 : zTt b n0 q = 2
          · have i16 : i = 16 := by
              have := (zsrt_1 tr).mpr t2
              omega
            rw [← zkey t2, ← ht.2.2.2.1 t2, zki_no zke 0 (fun j hj => hno j (by rw [i16]; exact hj))]
          · unfold zkw
            rw [if_neg (fun y => t2 y.1)]
        · have ew := hw i (by omega)
          have kr := zke_r i (by omega)
          refine g_aload_n (i := 0) (by decide +kernel) rfl ?_
          refine g_getr f_Md_73 (by decide +kernel) (by omega) rfl rfl ?_
          refine g_iload_n (i := 1) (by decide +kernel) rfl ?_
          refine g_lald (j := i) (by decide +kernel) (by omega) rfl rfl (by omega) (by decide) ?_
          refine g_aload_n (i := 0) (by decide +kernel) rfl ?_
          refine g_getl f_Md_219 (by decide +kernel) (by omega) rfl rfl ?_
          refine g_lcmp (by decide +kernel) ⟨by omega, by omega⟩ ⟨by omega, by omega⟩ ?_
          refine g_if_ne (off := 5) (tgt := 39) (by decide +kernel) (by decide) zcmp_r (fun h34 => ?_) (fun h34 => ?_)
          · have h34 := zcmp_ne.mp h34
            refine g_iinc (i := 1) (b := 1) (L' := [(0, _), (1, _)]) (by decide +kernel) rfl rfl rfl ?_
            refine g_goto (off := -40) (tgt := 2) (by decide +kernel) (by decide) ?_
            have ek : σ 197 i ≠ σ 189 21 := h34
            refine ih (i + 1) _ (by push_cast; rfl) (by omega) (fun j hj => ?_) (by omega)
            rcases Nat.lt_or_ge j i with y | y
            · exact hno j y
            · rw [show j = i by omega, ← ew]; exact ek
          · have h34 := zcmp_eq.mp h34
            refine g_iload_n (i := 1) (by decide +kernel) rfl ?_
            refine g_retI (by decide +kernel) rfl (Or.inl rfl) ⟨by decide, by decide⟩ ?_
            refine ⟨?_, rfl⟩
            have ek : σ 197 i = σ 189 21 := h34
            rw [← zkey t2, ← e21, ← ek, ew, zke_at i (by omega)]
theorem c_Md_key {G : zG} {n : Nat} {σ : zSt} {b : Nat → Int} {n0 q : Nat} {σ0 : zSt} (hn : 220 ≤ n) (h0 : zR0 b n0 σ0) (hn0 : n0 ≤ 600) (hR : zRq0 b n0 σ0 q σ)  : Gm G y_Md_key m_Md_key 0 0 0 [vr G 189] n SH σ (zI n SH (fun a σ' => a = zkw b n0 q ∧ σ' = σ)) := by
  refine g_enter (L := [(0, _)]) (by decide) rfl rfl rfl (Nat.le_of_ble_eq_true rfl) (fun X => ?_)
  refine g_iconst (a := 0) (by decide +kernel) ?_
  refine g_istore_n (i := 1) (L' := [(0, _), (1, _)]) (by decide +kernel) rfl rfl ?_
  exact w_Md_key hn h0 hn0 hR 17 0 _ rfl (by omega) (fun j hj => absurd hj (by omega)) (by omega)
theorem c_Md_isName {G : zG} {n : Nat} {σ : zSt} {b : Nat → Int} {n0 q : Nat} {σ0 : zSt} (hn : 220 ≤ n) (h0 : zR0 b n0 σ0) (hn0 : n0 ≤ 600) (hR : zRq0 b n0 σ0 q σ) (hq : q ≤ n0)  : Gm G y_Md_isName m_Md_isName 1 0 0 [vr G 189] n SH σ (zI n SH (fun a σ' => (zisn b n0 q ∧ a = 1 ∨ ¬ zisn b n0 q ∧ a = 0) ∧ σ' = σ)) := by
  refine g_enter (L := [(0, _)]) (by decide) rfl rfl rfl (Nat.le_of_ble_eq_true rfl) (fun X => ?_)
  have hR9 := hR
  obtain ⟨h14, ht, hc, hf⟩ := hR
  have hw := h0.wd hf
  have tr := zTt_r (b := b) (n0 := n0) (q := q)
  have sr := zsrt_r (zTt b n0 q)
  have e18 := ht.2.1
  have br := zTb_r (b := b) hq
  have e16 := ht.1
  have e17 := ht.2.2.1
  have e17r : (q : Int) ≤ σ 189 17 ∧ σ 189 17 ≤ 601 := by rw [e17]; split <;> omega
  refine g_aload_n (i := 0) (by decide +kernel) rfl ?_
  refine g_geti f_Md_213 (by decide +kernel) (by omega) rfl rfl ?_
  refine g_iconst (a := 1) (by decide +kernel) ?_
  refine g_icmp_ne (off := 28) (tgt := 33) (by decide +kernel) (by decide) ⟨by omega, by omega⟩ ⟨by omega, by omega⟩ (fun h5 => ?_) (fun h5 => ?_)
  · refine g_iconst (a := 0) (by decide +kernel) ?_
    refine g_retI (by decide +kernel) rfl (Or.inr ⟨rfl, by omega⟩) ⟨by decide, by decide⟩ ?_
    refine ⟨?_, rfl⟩
    by_cases t2 : zTt b n0 q = 2
    · have e17b : σ 189 17 = (zTb b n0 q : Int) := by rw [e17, if_neg (by have := (zTt_w t2).1; omega)]
      have s1 := (zsrt_1 tr).mpr t2
      by_cases h8 : (zTb b n0 q : Int) - q ≤ 8
      · have ek : zkw b n0 q = zki (zTs b n0 q) zkd 0 := by unfold zkw; rw [if_pos ⟨t2, h8⟩]
        first
          | exact Or.inl ⟨⟨t2, h8, by omega⟩, rfl⟩
          | exact Or.inr ⟨fun y => by have := y.2.2; omega, rfl⟩
      · first
          | (exfalso; omega)
          | exact Or.inr ⟨fun y => h8 y.2.1, rfl⟩
    · first
        | (exfalso; exact t2 ((zsrt_1 tr).mp (by omega)))
        | exact Or.inr ⟨fun y => t2 y.1, rfl⟩
  · have t2 : zTt b n0 q = 2 := (zsrt_1 tr).mp (by omega)
    have e17b : σ 189 17 = (zTb b n0 q : Int) := by rw [e17, if_neg (by have := (zTt_w t2).1; omega)]
    refine g_aload_n (i := 0) (by decide +kernel) rfl ?_
    refine g_geti f_Md_207 (by decide +kernel) (by omega) rfl rfl ?_
    refine g_aload_n (i := 0) (by decide +kernel) rfl ?_
    refine g_geti f_Md_210 (by decide +kernel) (by omega) rfl rfl ?_
    refine g_isub (by decide +kernel) ?_
    refine g_bipush (a := 8) (by decide +kernel) (by decide) ?_
    refine g_icmp_gt (off := 14) (tgt := 33) (by decide +kernel) (by decide) ⟨by omega, by omega⟩ ⟨by omega, by omega⟩ (fun h19 => ?_) (fun h19 => ?_)
    · refine g_iconst (a := 0) (by decide +kernel) ?_
      refine g_retI (by decide +kernel) rfl (Or.inr ⟨rfl, by omega⟩) ⟨by decide, by decide⟩ ?_
      refine ⟨?_, rfl⟩
      by_cases t2 : zTt b n0 q = 2
      · have e17b : σ 189 17 = (zTb b n0 q : Int) := by rw [e17, if_neg (by have := (zTt_w t2).1; omega)]
        have s1 := (zsrt_1 tr).mpr t2
        by_cases h8 : (zTb b n0 q : Int) - q ≤ 8
        · have ek : zkw b n0 q = zki (zTs b n0 q) zkd 0 := by unfold zkw; rw [if_pos ⟨t2, h8⟩]
          first
            | exact Or.inl ⟨⟨t2, h8, by omega⟩, rfl⟩
            | exact Or.inr ⟨fun y => by have := y.2.2; omega, rfl⟩
        · first
            | (exfalso; omega)
            | exact Or.inr ⟨fun y => h8 y.2.1, rfl⟩
      · first
          | (exfalso; exact t2 ((zsrt_1 tr).mp (by omega)))
          | exact Or.inr ⟨fun y => t2 y.1, rfl⟩
    · refine g_aload_n (i := 0) (by decide +kernel) rfl ?_
      refine g_cVI (st := _) (c_Md_key hn h0 hn0 hR9) k_Md_key l_Md_250 (by decide +kernel) (by omega) rfl rfl rfl rfl (Nat.le_of_ble_eq_true rfl) (by decide) ⟨by decide, by decide⟩ ?_
      rintro a9 σ9 ⟨ea9, hσ9⟩
      obtain rfl := hσ9.symm
      have kr := @zkw_r b n0 q
      refine g_if_ge (off := 7) (tgt := 33) (by decide +kernel) (by decide) ⟨by omega, by omega⟩ (fun h26 => ?_) (fun h26 => ?_)
      · refine g_iconst (a := 0) (by decide +kernel) ?_
        refine g_retI (by decide +kernel) rfl (Or.inr ⟨rfl, by omega⟩) ⟨by decide, by decide⟩ ?_
        refine ⟨?_, rfl⟩
        by_cases t2 : zTt b n0 q = 2
        · have e17b : σ 189 17 = (zTb b n0 q : Int) := by rw [e17, if_neg (by have := (zTt_w t2).1; omega)]
          have s1 := (zsrt_1 tr).mpr t2
          by_cases h8 : (zTb b n0 q : Int) - q ≤ 8
          · have ek : zkw b n0 q = zki (zTs b n0 q) zkd 0 := by unfold zkw; rw [if_pos ⟨t2, h8⟩]
            first
              | exact Or.inl ⟨⟨t2, h8, by omega⟩, rfl⟩
              | exact Or.inr ⟨fun y => by have := y.2.2; omega, rfl⟩
          · first
              | (exfalso; omega)
              | exact Or.inr ⟨fun y => h8 y.2.1, rfl⟩
        · first
            | (exfalso; exact t2 ((zsrt_1 tr).mp (by omega)))
            | exact Or.inr ⟨fun y => t2 y.1, rfl⟩
      · refine g_iconst (a := 1) (by decide +kernel) ?_
        refine g_goto (off := 4) (tgt := 34) (by decide +kernel) (by decide) ?_
        refine g_retI (by decide +kernel) rfl (Or.inr ⟨rfl, by omega⟩) ⟨by decide, by decide⟩ ?_
        refine ⟨?_, rfl⟩
        by_cases t2 : zTt b n0 q = 2
        · have e17b : σ 189 17 = (zTb b n0 q : Int) := by rw [e17, if_neg (by have := (zTt_w t2).1; omega)]
          have s1 := (zsrt_1 tr).mpr t2
          by_cases h8 : (zTb b n0 q : Int) - q ≤ 8
          · have ek : zkw b n0 q = zki (zTs b n0 q) zkd 0 := by unfold zkw; rw [if_pos ⟨t2, h8⟩]
            first
              | exact Or.inl ⟨⟨t2, h8, by omega⟩, rfl⟩
              | exact Or.inr ⟨fun y => by have := y.2.2; omega, rfl⟩
          · first
              | (exfalso; omega)
              | exact Or.inr ⟨fun y => h8 y.2.1, rfl⟩
        · first
            | (exfalso; exact t2 ((zsrt_1 tr).mp (by omega)))
            | exact Or.inr ⟨fun y => t2 y.1, rfl⟩
theorem c_Md_isSign {G : zG} {n : Nat} {σ : zSt} {b : Nat → Int} {n0 q : Nat} {σ0 : zSt} (hn : 220 ≤ n) (h0 : zR0 b n0 σ0) (hn0 : n0 ≤ 600) (hR : zRq0 b n0 σ0 q σ) {s : Int} (hs : s = 40 ∨ s = 41 ∨ s = 59)  : Gm G y_Md_isSign m_Md_isSign 0 0 0 [vr G 189, vi s] n SH σ (zI n SH (fun a σ' => ((zTt b n0 q = 4 ∧ zTs b n0 q = s) ∧ a = 1 ∨ ¬ (zTt b n0 q = 4 ∧ zTs b n0 q = s) ∧ a = 0) ∧ σ' = σ)) := by
  refine g_enter (L := [(0, _), (1, _)]) (by decide) rfl rfl rfl (Nat.le_of_ble_eq_true rfl) (fun X => ?_)
  obtain ⟨h14, ht, hc, hf⟩ := hR
  have hw := h0.wd hf
  have tr := zTt_r (b := b) (n0 := n0) (q := q)
  have sr := zsrt_r (zTt b n0 q)
  have e18 := ht.2.1
  have hB := h0.bm hf
  have e16 := ht.1
  refine g_aload_n (i := 0) (by decide +kernel) rfl ?_
  refine g_geti f_Md_230 (by decide +kernel) (by omega) rfl rfl ?_
  refine g_if_ne (off := 28) (tgt := 32) (by decide +kernel) (by decide) ⟨by omega, by omega⟩ (fun h4 => ?_) (fun h4 => ?_)
  · refine g_iconst (a := 0) (by decide +kernel) ?_
    refine g_retI (by decide +kernel) rfl (Or.inr ⟨rfl, by omega⟩) ⟨by decide, by decide⟩ ?_
    refine ⟨?_, rfl⟩
    first
      | exact Or.inl ⟨⟨t4, by omega⟩, rfl⟩
      | exact Or.inr ⟨fun y => by have := y.2; omega, rfl⟩
      | exact Or.inr ⟨fun y => by have := (zsrt_3 tr).mpr y.1; omega, rfl⟩
  · refine g_aload_n (i := 0) (by decide +kernel) rfl ?_
    refine g_geti f_Md_213 (by decide +kernel) (by omega) rfl rfl ?_
    refine g_iconst (a := 3) (by decide +kernel) ?_
    refine g_icmp_ne (off := 20) (tgt := 32) (by decide +kernel) (by decide) ⟨by omega, by omega⟩ ⟨by omega, by omega⟩ (fun h12 => ?_) (fun h12 => ?_)
    · refine g_iconst (a := 0) (by decide +kernel) ?_
      refine g_retI (by decide +kernel) rfl (Or.inr ⟨rfl, by omega⟩) ⟨by decide, by decide⟩ ?_
      refine ⟨?_, rfl⟩
      first
        | exact Or.inl ⟨⟨t4, by omega⟩, rfl⟩
        | exact Or.inr ⟨fun y => by have := y.2; omega, rfl⟩
        | exact Or.inr ⟨fun y => by have := (zsrt_3 tr).mpr y.1; omega, rfl⟩
    · have t4 : zTt b n0 q = 4 := (zsrt_3 tr).mp (by omega)
      have q1 := (zTt_s t4).1
      have es := (zTs_s t4).2
      have bq := hB q (by omega)
      refine g_aload_n (i := 0) (by decide +kernel) rfl ?_
      refine g_getr f_Md_30 (by decide +kernel) (by omega) rfl rfl ?_
      refine g_aload_n (i := 0) (by decide +kernel) rfl ?_
      refine g_geti f_Md_210 (by decide +kernel) (by omega) rfl rfl ?_
      refine g_bald (j := q) (by decide +kernel) (by omega) rfl (by omega) (by omega) (by decide) ?_
      refine g_iload_n (i := 1) (by decide +kernel) rfl ?_
      refine g_icmp_ne (off := 7) (tgt := 32) (by decide +kernel) (by decide) ⟨by omega, by omega⟩ ⟨by omega, by omega⟩ (fun h25 => ?_) (fun h25 => ?_)
      · refine g_iconst (a := 0) (by decide +kernel) ?_
        refine g_retI (by decide +kernel) rfl (Or.inr ⟨rfl, by omega⟩) ⟨by decide, by decide⟩ ?_
        refine ⟨?_, rfl⟩
        first
          | exact Or.inl ⟨⟨t4, by omega⟩, rfl⟩
          | exact Or.inr ⟨fun y => by have := y.2; omega, rfl⟩
          | exact Or.inr ⟨fun y => by have := (zsrt_3 tr).mpr y.1; omega, rfl⟩
      · refine g_iconst (a := 1) (by decide +kernel) ?_
        refine g_goto (off := 4) (tgt := 33) (by decide +kernel) (by decide) ?_
        refine g_retI (by decide +kernel) rfl (Or.inr ⟨rfl, by omega⟩) ⟨by decide, by decide⟩ ?_
        refine ⟨?_, rfl⟩
        first
          | exact Or.inl ⟨⟨t4, by omega⟩, rfl⟩
          | exact Or.inr ⟨fun y => by have := y.2; omega, rfl⟩
          | exact Or.inr ⟨fun y => by have := (zsrt_3 tr).mpr y.1; omega, rfl⟩
theorem c_Md_isSignF {G : zG} {n : Nat} {σ : zSt} (hn : 220 ≤ n) {s : Int} (z14 : zr (σ 189 14)) (h14 : σ 189 14 ≠ 0)  : Gm G y_Md_isSign m_Md_isSign 0 0 0 [vr G 189, vi s] n SH σ (zI n SH (fun a σ' => a = 0 ∧ σ' = σ)) := by
  refine g_enter (L := [(0, _), (1, _)]) (by decide) rfl rfl rfl (Nat.le_of_ble_eq_true rfl) (fun X => ?_)
  refine g_aload_n (i := 0) (by decide +kernel) rfl ?_
  refine g_geti f_Md_230 (by decide +kernel) (by omega) rfl rfl ?_
  refine g_if_ne (off := 28) (tgt := 32) (by decide +kernel) (by decide) ⟨by omega, by omega⟩ (fun h4 => ?_) (fun h4 => ?_)
  · refine g_iconst (a := 0) (by decide +kernel) ?_
    refine g_retI (by decide +kernel) rfl (Or.inr ⟨rfl, by omega⟩) ⟨by decide, by decide⟩ ?_
    exact ⟨rfl, rfl⟩
  · exact absurd h4 h14
theorem c_Md_takesNumberF {G : zG} {n : Nat} {σ : zSt} (hn : 220 ≤ n) {lo hi : Int} {f : Int × Nat} {σ0 : zSt} (hF : zRft σ0 f σ) (z1 : zr lo) (z2 : zr hi) (h18 : zr (σ 189 18))  : Gm G y_Md_takesNumber m_Md_takesNumber 2 0 0 [vr G 189, vi lo, vi hi] n SH σ (zI n SH (fun _ σ' => σ' = σ)) := by
  refine g_enter (L := [(0, _), (1, _), (2, _)]) (by decide) rfl rfl rfl (Nat.le_of_ble_eq_true rfl) (fun X => ?_)
  have f1 := hF.1
  have f2 := hF.2.1
  refine g_aload_n (i := 0) (by decide +kernel) rfl ?_
  refine g_aload_n (i := 0) (by decide +kernel) rfl ?_
  refine g_geti f_Md_213 (by decide +kernel) (by omega) rfl rfl ?_
  refine g_iconst (a := 2) (by decide +kernel) ?_
  refine g_icmp_ne (off := 7) (tgt := 13) (by decide +kernel) (by decide) ⟨by omega, by omega⟩ ⟨by omega, by omega⟩ (fun h6 => ?_) (fun h6 => ?_)
  · refine g_iconst (a := 0) (by decide +kernel) ?_
    refine g_iconst (a := 2) (by decide +kernel) ?_
    refine g_cVV (st := _) (c_Md_wants hn ⟨by omega, by omega⟩ (fun y => absurd y (by omega)) ⟨by decide, by decide⟩ (by omega)) k_Md_wants l_Md_243 (by decide +kernel) (by omega) rfl rfl rfl rfl (Nat.le_of_ble_eq_true rfl) (by decide) ⟨by decide, by decide⟩ ?_
    rintro υ hυ
    obtain rfl := (hF.wt hυ).symm
    refine g_aload_n (i := 0) (by decide +kernel) rfl ?_
    refine g_aload_n (i := 0) (by decide +kernel) rfl ?_
    refine g_geti f_Md_227 (by decide +kernel) (by omega) rfl rfl ?_
    refine g_iload_n (i := 1) (by decide +kernel) rfl ?_
    refine g_iload_n (i := 2) (by decide +kernel) rfl ?_
    obtain ⟨y9, hy9, ey9, hyx⟩ := vi_nm (σ 189 19)
    rw [ey9]
    refine g_cSI (st := _) (c_Md_isIn hy9 z1 z2) k_Md_isIn l_Md_152 (by decide +kernel) rfl rfl (Nat.le_of_ble_eq_true rfl) (by decide) ⟨by decide, by decide⟩ ?_
    rintro a9 σ9 ⟨ea9, hσ9⟩
    obtain rfl := hσ9.symm
    have a9r : a9 = 0 ∨ a9 = 1 := by rw [ea9]; split; exact Or.inr rfl; exact Or.inl rfl
    refine g_iconst (a := 4) (by decide +kernel) ?_
    refine g_cVV (st := _) (c_Md_wants hn ⟨by omega, by omega⟩ (fun y => absurd y (by omega)) ⟨by decide, by decide⟩ (by omega)) k_Md_wants l_Md_243 (by decide +kernel) (by omega) rfl rfl rfl rfl (Nat.le_of_ble_eq_true rfl) (by decide) ⟨by decide, by decide⟩ ?_
    rintro υ hυ
    obtain rfl := (hF.wt hυ).symm
    refine g_aload_n (i := 0) (by decide +kernel) rfl ?_
    refine g_geti f_Md_227 (by decide +kernel) (by omega) rfl rfl ?_
    refine g_istore_n (i := 3) (L' := [(0, _), (1, _), (2, _), (3, _)]) (by decide +kernel) rfl rfl ?_
    refine g_aload_n (i := 0) (by decide +kernel) rfl ?_
    refine g_geti f_Md_230 (by decide +kernel) (by omega) rfl rfl ?_
    refine g_if_ne (off := 7) (tgt := 48) (by decide +kernel) (by decide) ⟨by omega, by omega⟩ (fun h41 => ?_) (fun h41 => ?_)
    · refine g_iload_n (i := 3) (by decide +kernel) rfl ?_
      refine g_retI (by decide +kernel) rfl (Or.inl rfl) ⟨by decide, by decide⟩ ?_
      rfl
    · exact absurd h41 (by omega)
  · refine g_iconst (a := 1) (by decide +kernel) ?_
    refine g_goto (off := 4) (tgt := 14) (by decide +kernel) (by decide) ?_
    refine g_iconst (a := 2) (by decide +kernel) ?_
    refine g_cVV (st := _) (c_Md_wants hn ⟨by omega, by omega⟩ (fun y => absurd y (by omega)) ⟨by decide, by decide⟩ (by omega)) k_Md_wants l_Md_243 (by decide +kernel) (by omega) rfl rfl rfl rfl (Nat.le_of_ble_eq_true rfl) (by decide) ⟨by decide, by decide⟩ ?_
    rintro υ hυ
    obtain rfl := (hF.wt hυ).symm
    refine g_aload_n (i := 0) (by decide +kernel) rfl ?_
    refine g_aload_n (i := 0) (by decide +kernel) rfl ?_
    refine g_geti f_Md_227 (by decide +kernel) (by omega) rfl rfl ?_
    refine g_iload_n (i := 1) (by decide +kernel) rfl ?_
    refine g_iload_n (i := 2) (by decide +kernel) rfl ?_
    obtain ⟨y9, hy9, ey9, hyx⟩ := vi_nm (σ 189 19)
    rw [ey9]
    refine g_cSI (st := _) (c_Md_isIn hy9 z1 z2) k_Md_isIn l_Md_152 (by decide +kernel) rfl rfl (Nat.le_of_ble_eq_true rfl) (by decide) ⟨by decide, by decide⟩ ?_
    rintro a9 σ9 ⟨ea9, hσ9⟩
    obtain rfl := hσ9.symm
    have a9r : a9 = 0 ∨ a9 = 1 := by rw [ea9]; split; exact Or.inr rfl; exact Or.inl rfl
    refine g_iconst (a := 4) (by decide +kernel) ?_
    refine g_cVV (st := _) (c_Md_wants hn ⟨by omega, by omega⟩ (fun y => absurd y (by omega)) ⟨by decide, by decide⟩ (by omega)) k_Md_wants l_Md_243 (by decide +kernel) (by omega) rfl rfl rfl rfl (Nat.le_of_ble_eq_true rfl) (by decide) ⟨by decide, by decide⟩ ?_
    rintro υ hυ
    obtain rfl := (hF.wt hυ).symm
    refine g_aload_n (i := 0) (by decide +kernel) rfl ?_
    refine g_geti f_Md_227 (by decide +kernel) (by omega) rfl rfl ?_
    refine g_istore_n (i := 3) (L' := [(0, _), (1, _), (2, _), (3, _)]) (by decide +kernel) rfl rfl ?_
    refine g_aload_n (i := 0) (by decide +kernel) rfl ?_
    refine g_geti f_Md_230 (by decide +kernel) (by omega) rfl rfl ?_
    refine g_if_ne (off := 7) (tgt := 48) (by decide +kernel) (by decide) ⟨by omega, by omega⟩ (fun h41 => ?_) (fun h41 => ?_)
    · refine g_iload_n (i := 3) (by decide +kernel) rfl ?_
      refine g_retI (by decide +kernel) rfl (Or.inl rfl) ⟨by decide, by decide⟩ ?_
      rfl
    · exact absurd h41 (by omega)
theorem c_Md_takesNumber {G : zG} {n : Nat} {σ : zSt} {b : Nat → Int} {n0 q : Nat} {σ0 : zSt} (hn : 220 ≤ n) (h0 : zR0 b n0 σ0) (hn0 : n0 ≤ 600) (hR : zRq0 b n0 σ0 q σ) (hq : q ≤ n0) {lo hi : Int} (z1 : zr lo) (z2 : zr hi)  : Gm G y_Md_takesNumber m_Md_takesNumber 3 0 0 [vr G 189, vi lo, vi hi] n SH σ (zI n SH (fun a σ' => ((zTt b n0 q = 3 ∧ lo ≤ zTs b n0 q ∧ zTs b n0 q ≤ hi) ∧ a = zTs b n0 q ∧ zTkM σ σ' b n0 (zTb b n0 q)) ∨ (¬ (zTt b n0 q = 3 ∧ lo ≤ zTs b n0 q ∧ zTs b n0 q ≤ hi) ∧ zRft σ0 (znf b n0 q, q) σ'))) := by
  refine g_enter (L := [(0, _), (1, _), (2, _)]) (by decide) rfl rfl rfl (Nat.le_of_ble_eq_true rfl) (fun X => ?_)
  have hR9 := hR
  obtain ⟨h14, ht, hc, hf⟩ := hR
  have hw := h0.wd hf
  have tr := zTt_r (b := b) (n0 := n0) (q := q)
  have sr := zsrt_r (zTt b n0 q)
  have e18 := ht.2.1
  have br := zTb_r (b := b) hq
  have e17 := ht.2.2.1
  refine g_aload_n (i := 0) (by decide +kernel) rfl ?_
  refine g_aload_n (i := 0) (by decide +kernel) rfl ?_
  refine g_geti f_Md_213 (by decide +kernel) (by omega) rfl rfl ?_
  refine g_iconst (a := 2) (by decide +kernel) ?_
  refine g_icmp_ne (off := 7) (tgt := 13) (by decide +kernel) (by decide) ⟨by omega, by omega⟩ ⟨by omega, by omega⟩ (fun h6 => ?_) (fun h6 => ?_)
  · have t3 : ¬ zTt b n0 q = 3 := fun y => by have := (zsrt_2 tr).mpr y; omega
    refine g_iconst (a := 0) (by decide +kernel) ?_
    refine g_iconst (a := 2) (by decide +kernel) ?_
    refine g_cVV (st := _) (c_Md_wants hn ⟨by omega, by omega⟩ (fun _ => ⟨by omega, by omega⟩) ⟨by decide, by decide⟩ (by decide)) k_Md_wants l_Md_243 (by decide +kernel) (by omega) rfl rfl rfl rfl (Nat.le_of_ble_eq_true rfl) (by decide) ⟨by decide, by decide⟩ ?_
    rintro υ hυ
    have hS : (zTt b n0 q = 3 ∧ υ = σ) ∨ (¬ zTt b n0 q = 3 ∧ zRft σ0 (zcs b n0 q, q) υ) := by
      rw [hυ]
      first
        | exact Or.inl ⟨t3, if_neg (by decide)⟩
        | (refine Or.inr ⟨t3, ?_⟩
           rw [if_pos rfl]
           have g := hR9.fl (k := 2) (by decide)
           rw [if_pos rfl] at g
           exact g)
    have u18 : υ 189 18 = σ 189 18 := by
      rw [hυ]
      split
      · exact zfl_o (by decide)
      · rfl
    have u14 : 0 ≤ υ 189 14 ∧ υ 189 14 ≤ 8 := by
      rcases hS with ⟨_, e⟩ | ⟨_, e⟩
      · rw [e]; omega
      · have e1 := e.1; have e2 := e.2.1; omega
    refine g_aload_n (i := 0) (by decide +kernel) rfl ?_
    refine g_aload_n (i := 0) (by decide +kernel) rfl ?_
    refine g_geti f_Md_227 (by decide +kernel) (by omega) rfl rfl ?_
    refine g_iload_n (i := 1) (by decide +kernel) rfl ?_
    refine g_iload_n (i := 2) (by decide +kernel) rfl ?_
    obtain ⟨y9, hy9, ey9, hyx⟩ := vi_nm (υ 189 19)
    rw [ey9]
    refine g_cSI (st := _) (c_Md_isIn hy9 z1 z2) k_Md_isIn l_Md_152 (by decide +kernel) rfl rfl (Nat.le_of_ble_eq_true rfl) (by decide) ⟨by decide, by decide⟩ ?_
    rintro a9 σ9 ⟨ea9, hσ9⟩
    obtain rfl := hσ9.symm
    have a9r : a9 = 0 ∨ a9 = 1 := by rw [ea9]; split; exact Or.inr rfl; exact Or.inl rfl
    refine g_iconst (a := 4) (by decide +kernel) ?_
    refine g_cVV (st := _) (c_Md_wants hn ⟨by omega, by omega⟩ (fun _ => ⟨by omega, by omega⟩) ⟨by decide, by decide⟩ a9r) k_Md_wants l_Md_243 (by decide +kernel) (by omega) rfl rfl rfl rfl (Nat.le_of_ble_eq_true rfl) (by decide) ⟨by decide, by decide⟩ ?_
    rintro τ hτ
    have hS2 : ((zTt b n0 q = 3 ∧ lo ≤ zTs b n0 q ∧ zTs b n0 q ≤ hi) ∧ τ = σ) ∨ (¬ (zTt b n0 q = 3 ∧ lo ≤ zTs b n0 q ∧ zTs b n0 q ≤ hi) ∧ zRft σ0 (znf b n0 q, q) τ) := by
      rcases hS with ⟨t, e⟩ | ⟨t, e⟩
      · have nr := zTs_nr t
        have e19 := ht.2.2.2.2 t
        have y19 : y9 = zTs b n0 q := by rw [hyx ⟨by rw [e, e19]; omega, by rw [e, e19]; omega⟩, e, e19]
        by_cases c : lo ≤ zTs b n0 q ∧ zTs b n0 q ≤ hi
        · exact Or.inl ⟨⟨t, c⟩, by rw [hτ, ea9, y19, if_pos c, if_neg (by decide)]; exact e⟩
        · refine Or.inr ⟨fun y => c y.2, ?_⟩
          rw [hτ, ea9, y19, if_neg c, if_pos rfl, e]
          have g := hR9.fl (k := 4) (by decide)
          rw [if_neg (by decide)] at g
          unfold znf
          rw [if_pos t]
          exact g
      · refine Or.inr ⟨fun y => t y.1, ?_⟩
        unfold znf
        rw [if_neg t, e.wt hτ]
        exact e
    have t14 : 0 ≤ τ 189 14 ∧ τ 189 14 ≤ 8 := by
      rcases hS2 with ⟨_, e⟩ | ⟨_, e⟩
      · rw [e]; omega
      · have e1 := e.1; have e2 := e.2.1; omega
    refine g_aload_n (i := 0) (by decide +kernel) rfl ?_
    refine g_geti f_Md_227 (by decide +kernel) (by omega) rfl rfl ?_
    refine g_istore_n (i := 3) (L' := [(0, _), (1, _), (2, _), (3, _)]) (by decide +kernel) rfl rfl ?_
    refine g_aload_n (i := 0) (by decide +kernel) rfl ?_
    refine g_geti f_Md_230 (by decide +kernel) (by omega) rfl rfl ?_
    refine g_if_ne (off := 7) (tgt := 48) (by decide +kernel) (by decide) ⟨by omega, by omega⟩ (fun h41 => ?_) (fun h41 => ?_)
    · rcases hS2 with ⟨_, e⟩ | ⟨hc2, e⟩
      case inl => exact absurd h14 (by rw [← e]; exact h41)
      refine g_iload_n (i := 3) (by decide +kernel) rfl ?_
      refine g_retI (by decide +kernel) rfl (Or.inl rfl) ⟨by decide, by decide⟩ ?_
      first
        | exact Or.inr ⟨hc2, e⟩
        | exact Or.inl ⟨hc2, ht.2.2.2.2 hc2.1, hk9⟩
    · rcases hS2 with ⟨hc2, e⟩ | ⟨_, e⟩
      case inr => exact absurd e.2.1 (by have := e.1; omega)
      obtain rfl := e.symm
      have q9 := (zTt_n hc2.1).1
      have e17b : σ 189 17 = (zTb b n0 q : Int) := by rw [e17, if_neg (by omega)]
      refine g_aload_n (i := 0) (by decide +kernel) rfl ?_
      refine g_cVV (st := _) (c_Md_reads hn (h0.bm hf) (h0.end hf) hn0 br.2 e17b) k_Md_reads l_Md_247 (by decide +kernel) (by omega) rfl rfl rfl rfl (Nat.le_of_ble_eq_true rfl) (by decide) ⟨by decide, by decide⟩ ?_
      rintro υ9 hk9
      refine g_iload_n (i := 3) (by decide +kernel) rfl ?_
      refine g_retI (by decide +kernel) rfl (Or.inl rfl) ⟨by decide, by decide⟩ ?_
      first
        | exact Or.inr ⟨hc2, e⟩
        | exact Or.inl ⟨hc2, ht.2.2.2.2 hc2.1, hk9⟩
  · have t3 : zTt b n0 q = 3 := (zsrt_2 tr).mp (by omega)
    refine g_iconst (a := 1) (by decide +kernel) ?_
    refine g_goto (off := 4) (tgt := 14) (by decide +kernel) (by decide) ?_
    refine g_iconst (a := 2) (by decide +kernel) ?_
    refine g_cVV (st := _) (c_Md_wants hn ⟨by omega, by omega⟩ (fun _ => ⟨by omega, by omega⟩) ⟨by decide, by decide⟩ (by decide)) k_Md_wants l_Md_243 (by decide +kernel) (by omega) rfl rfl rfl rfl (Nat.le_of_ble_eq_true rfl) (by decide) ⟨by decide, by decide⟩ ?_
    rintro υ hυ
    have hS : (zTt b n0 q = 3 ∧ υ = σ) ∨ (¬ zTt b n0 q = 3 ∧ zRft σ0 (zcs b n0 q, q) υ) := by
      rw [hυ]
      first
        | exact Or.inl ⟨t3, if_neg (by decide)⟩
        | (refine Or.inr ⟨t3, ?_⟩
           rw [if_pos rfl]
           have g := hR9.fl (k := 2) (by decide)
           rw [if_pos rfl] at g
           exact g)
    have u18 : υ 189 18 = σ 189 18 := by
      rw [hυ]
      split
      · exact zfl_o (by decide)
      · rfl
    have u14 : 0 ≤ υ 189 14 ∧ υ 189 14 ≤ 8 := by
      rcases hS with ⟨_, e⟩ | ⟨_, e⟩
      · rw [e]; omega
      · have e1 := e.1; have e2 := e.2.1; omega
    refine g_aload_n (i := 0) (by decide +kernel) rfl ?_
    refine g_aload_n (i := 0) (by decide +kernel) rfl ?_
    refine g_geti f_Md_227 (by decide +kernel) (by omega) rfl rfl ?_
    refine g_iload_n (i := 1) (by decide +kernel) rfl ?_
    refine g_iload_n (i := 2) (by decide +kernel) rfl ?_
    obtain ⟨y9, hy9, ey9, hyx⟩ := vi_nm (υ 189 19)
    rw [ey9]
    refine g_cSI (st := _) (c_Md_isIn hy9 z1 z2) k_Md_isIn l_Md_152 (by decide +kernel) rfl rfl (Nat.le_of_ble_eq_true rfl) (by decide) ⟨by decide, by decide⟩ ?_
    rintro a9 σ9 ⟨ea9, hσ9⟩
    obtain rfl := hσ9.symm
    have a9r : a9 = 0 ∨ a9 = 1 := by rw [ea9]; split; exact Or.inr rfl; exact Or.inl rfl
    refine g_iconst (a := 4) (by decide +kernel) ?_
    refine g_cVV (st := _) (c_Md_wants hn ⟨by omega, by omega⟩ (fun _ => ⟨by omega, by omega⟩) ⟨by decide, by decide⟩ a9r) k_Md_wants l_Md_243 (by decide +kernel) (by omega) rfl rfl rfl rfl (Nat.le_of_ble_eq_true rfl) (by decide) ⟨by decide, by decide⟩ ?_
    rintro τ hτ
    have hS2 : ((zTt b n0 q = 3 ∧ lo ≤ zTs b n0 q ∧ zTs b n0 q ≤ hi) ∧ τ = σ) ∨ (¬ (zTt b n0 q = 3 ∧ lo ≤ zTs b n0 q ∧ zTs b n0 q ≤ hi) ∧ zRft σ0 (znf b n0 q, q) τ) := by
      rcases hS with ⟨t, e⟩ | ⟨t, e⟩
      · have nr := zTs_nr t
        have e19 := ht.2.2.2.2 t
        have y19 : y9 = zTs b n0 q := by rw [hyx ⟨by rw [e, e19]; omega, by rw [e, e19]; omega⟩, e, e19]
        by_cases c : lo ≤ zTs b n0 q ∧ zTs b n0 q ≤ hi
        · exact Or.inl ⟨⟨t, c⟩, by rw [hτ, ea9, y19, if_pos c, if_neg (by decide)]; exact e⟩
        · refine Or.inr ⟨fun y => c y.2, ?_⟩
          rw [hτ, ea9, y19, if_neg c, if_pos rfl, e]
          have g := hR9.fl (k := 4) (by decide)
          rw [if_neg (by decide)] at g
          unfold znf
          rw [if_pos t]
          exact g
      · refine Or.inr ⟨fun y => t y.1, ?_⟩
        unfold znf
        rw [if_neg t, e.wt hτ]
        exact e
    have t14 : 0 ≤ τ 189 14 ∧ τ 189 14 ≤ 8 := by
      rcases hS2 with ⟨_, e⟩ | ⟨_, e⟩
      · rw [e]; omega
      · have e1 := e.1; have e2 := e.2.1; omega
    refine g_aload_n (i := 0) (by decide +kernel) rfl ?_
    refine g_geti f_Md_227 (by decide +kernel) (by omega) rfl rfl ?_
    refine g_istore_n (i := 3) (L' := [(0, _), (1, _), (2, _), (3, _)]) (by decide +kernel) rfl rfl ?_
    refine g_aload_n (i := 0) (by decide +kernel) rfl ?_
    refine g_geti f_Md_230 (by decide +kernel) (by omega) rfl rfl ?_
    refine g_if_ne (off := 7) (tgt := 48) (by decide +kernel) (by decide) ⟨by omega, by omega⟩ (fun h41 => ?_) (fun h41 => ?_)
    · rcases hS2 with ⟨_, e⟩ | ⟨hc2, e⟩
      case inl => exact absurd h14 (by rw [← e]; exact h41)
      refine g_iload_n (i := 3) (by decide +kernel) rfl ?_
      refine g_retI (by decide +kernel) rfl (Or.inl rfl) ⟨by decide, by decide⟩ ?_
      first
        | exact Or.inr ⟨hc2, e⟩
        | exact Or.inl ⟨hc2, ht.2.2.2.2 hc2.1, hk9⟩
    · rcases hS2 with ⟨hc2, e⟩ | ⟨_, e⟩
      case inr => exact absurd e.2.1 (by have := e.1; omega)
      obtain rfl := e.symm
      have q9 := (zTt_n hc2.1).1
      have e17b : σ 189 17 = (zTb b n0 q : Int) := by rw [e17, if_neg (by omega)]
      refine g_aload_n (i := 0) (by decide +kernel) rfl ?_
      refine g_cVV (st := _) (c_Md_reads hn (h0.bm hf) (h0.end hf) hn0 br.2 e17b) k_Md_reads l_Md_247 (by decide +kernel) (by omega) rfl rfl rfl rfl (Nat.le_of_ble_eq_true rfl) (by decide) ⟨by decide, by decide⟩ ?_
      rintro υ9 hk9
      refine g_iload_n (i := 3) (by decide +kernel) rfl ?_
      refine g_retI (by decide +kernel) rfl (Or.inl rfl) ⟨by decide, by decide⟩ ?_
      first
        | exact Or.inr ⟨hc2, e⟩
        | exact Or.inl ⟨hc2, ht.2.2.2.2 hc2.1, hk9⟩
theorem zdep_st {S : zSt} {d r : Nat → Nat} {j : Nat} (hv : zVal S d r) (jN : j < zN S) : zdep (S 2) 12 (j : Int) = zdep (S 2) 12 (S 2 j) + 1 := by
  have tj := hv.2.1 j jN
  have hN := hv.1.1
  by_cases z : S 2 j = -1
  · have e : zdep (S 2) 12 (j : Int) = zdep (S 2) 11 (S 2 j) + 1 := by show (if (j : Int) = -1 then 0 else zdep (S 2) 11 (S 2 j) + 1) = _; rw [if_neg (by omega)]
    rw [e, z]; rfl
  · have a := zdep_d hv 12 j jN (by omega)
    have b := zdep_d hv 12 (S 2 j).toNat (by omega) (by omega)
    rw [show (((S 2 j).toNat : Nat) : Int) = S 2 j by omega] at b
    have c := (hv.1.2 (S 2 j).toNat (by omega)).2 j jN (by omega)
    omega
theorem w_Md_depth {G : zG} {X : zX} {n : Nat} {σ : zSt} {S : zSt} {d r : Nat → Nat} {k : Nat} (hn : 220 ≤ n) (hv : zVal S d r) (hE : ∀ j, j < zN S → σ 190 (1760 + j) = S 2 j) {x1 : Int}  : ∀ (m : Nat) (i : Nat) (x2 x3 : Int), x2 = (i : Int) → (-1 ≤ x3 ∧ x3 < zN S) → zdep (S 2) 12 (S 2 k) = i + zdep (S 2) 12 x3 → x3 < (m : Int) - 1 → Go G X m_Md_depth (0, 0, 0, 0, 0) n SH σ 13 [(0, vr G 189), (1, vi x1), (2, vi x2), (3, vi x3)] [] (zI n SH (fun a σ' => a = (zdep (S 2) 12 (S 2 k) : Int) ∧ σ' = σ)) := by
  intro m
  induction m with
  | zero => intro i x2 x3 e2 hx hw hm; exact absurd hm (by omega)
  | succ m ih =>
    intro i x2 x3 e2 hx hw hm
    have hN := hv.1.1
    subst e2
    refine g_iload_n (i := 3) (by decide +kernel) rfl ?_
    refine g_if_lt (off := 20) (tgt := 34) (by decide +kernel) (by decide) ⟨by omega, by omega⟩ (fun h14 => ?_) (fun h14 => ?_)
    · refine g_iload_n (i := 2) (by decide +kernel) rfl ?_
      refine g_retI (by decide +kernel) rfl (Or.inl rfl) ⟨by decide, by decide⟩ ?_
      refine ⟨?_, rfl⟩
      have e : x3 = -1 := by omega
      rw [e] at hw
      have z : zdep (S 2) 12 (-1) = 0 := rfl
      omega
    · obtain ⟨j, rfl⟩ := Int.eq_ofNat_of_zero_le h14
      have jN : j < zN S := by omega
      have aj := hE j jN
      have tj := hv.2.1 j jN
      refine g_iinc (i := 2) (b := 1) (L' := [(0, _), (1, _), (2, _), (3, _)]) (by decide +kernel) rfl rfl rfl ?_
      refine g_aload_n (i := 0) (by decide +kernel) rfl ?_
      refine g_getr f_Md_7 (by decide +kernel) (by omega) rfl rfl ?_
      refine g_sipush (a := 1760) (by decide +kernel) (by decide) ?_
      refine g_iload_n (i := 3) (by decide +kernel) rfl ?_
      refine g_iadd (by decide +kernel) ?_
      refine g_iald (j := 1760 + j) (by decide +kernel) (by omega) rfl (by omega) (by omega) (by decide) ?_
      refine g_istore_n (i := 3) (L' := [(0, _), (1, _), (2, _), (3, _)]) (by decide +kernel) rfl rfl ?_
      refine g_goto (off := -18) (tgt := 13) (by decide +kernel) (by decide) ?_
      rw [aj]
      refine ih (i + 1) _ _ (by push_cast; rfl) (by omega) ?_ (by omega)
      have st := zdep_st hv jN
      omega
theorem c_Md_depth {G : zG} {n : Nat} {σ : zSt} {S : zSt} {d r : Nat → Nat} {k : Nat} (hn : 220 ≤ n) (hv : zVal S d r) (hE : ∀ j, j < zN S → σ 190 (1760 + j) = S 2 j) (hk : k < zN S)  : Gm G y_Md_depth m_Md_depth 0 0 0 [vr G 189, vi (k : Int)] n SH σ (zI n SH (fun a σ' => a = (zdep (S 2) 12 (S 2 k) : Int) ∧ σ' = σ)) := by
  refine g_enter (L := [(0, _), (1, _)]) (by decide) rfl rfl rfl (Nat.le_of_ble_eq_true rfl) (fun X => ?_)
  have hN := hv.1.1
  have ak := hE k hk
  have tk := hv.2.1 k hk
  refine g_iconst (a := 0) (by decide +kernel) ?_
  refine g_istore_n (i := 2) (L' := [(0, _), (1, _), (2, _)]) (by decide +kernel) rfl rfl ?_
  refine g_aload_n (i := 0) (by decide +kernel) rfl ?_
  refine g_getr f_Md_7 (by decide +kernel) (by omega) rfl rfl ?_
  refine g_sipush (a := 1760) (by decide +kernel) (by decide) ?_
  refine g_iload_n (i := 1) (by decide +kernel) rfl ?_
  refine g_iadd (by decide +kernel) ?_
  refine g_iald (j := 1760 + k) (by decide +kernel) (by omega) rfl (by omega) (by omega) (by decide) ?_
  refine g_istore_n (i := 3) (L' := [(0, _), (1, _), (2, _), (3, _)]) (by decide +kernel) rfl rfl ?_
  rw [ak]
  exact w_Md_depth (k := k) hn hv hE (k + 2) 0 _ _ rfl (by omega) (by omega) (by omega)
