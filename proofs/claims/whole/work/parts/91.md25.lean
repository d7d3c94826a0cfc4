/-! whether starts go round -/
def zrun (T : zSt) : Nat → Nat → Bool
  | 0, _ => true
  | f + 1, x => zby (T 4 x) && zrun T f (T 5 x).toNat
theorem zrun_s (T : zSt) (f x : Nat) : zrun T (f + 1) x = (zby (T 4 x) && zrun T f (T 5 x).toNat) := rfl
theorem zrun_val {T : zSt} {d r : Nat → Nat} (hv : zVal T d r) : ∀ f x, x < zN T → zrk T r x < f → zrun T f x = false
  | 0, _, _, h => absurd h (Nat.not_lt_zero _)
  | f + 1, x, hx, h => by
    rw [zrun_s]
    by_cases b : zby (T 4 x) = true
    · have o := hv.oth hx b
      have l := zrk_lt hv hx b
      rw [zrun_val hv f _ o.2.1 (by omega), Bool.and_false]
    · rw [Bool.eq_false_iff.mpr b, Bool.false_and]
theorem zrun_S {S : zSt} {d r : Nat → Nat} (hv : zVal S d r) {c : Nat} {h o m : Int} (hc : c < zN S) (hh : 0 ≤ h ∧ h ≤ 3) (hm : 0 ≤ m ∧ m ≤ 999) (hp : h ≠ 0 → S 2 c ≠ -1 ∧ S 1 (S 2 c).toNat = 1) (hb : zby h = true → 0 ≤ o ∧ o.toNat < zN S ∧ S 2 o.toNat = S 2 c) : zrun (zOpS S c h o m) 13 c = true ↔ zby h = true ∧ zlead (S 4) (S 5) (c : Int) 12 o = true := by
  obtain ⟨q0, q4, q5, q6⟩ := zOpS_r S c h o m
  have n0 : zN (zOpS S c h o m) = zN S := by unfold zN; rw [q0 0 (by decide) (by decide) (by decide)]
  have v1 := hv.1.1
  constructor
  · intro y
    have b : zby h = true := by
      rw [zrun_s, q4, zu_eq, Bool.and_eq_true] at y
      exact y.1
    refine ⟨b, ?_⟩
    cases e : zlead (S 4) (S 5) (c : Int) 12 o with
    | true => rfl
    | false =>
      exfalso
      obtain ⟨r', V⟩ := zOpS_val hv hc hh hm hp (fun b => ⟨(hb b).1, (hb b).2.1, (hb b).2.2, e⟩)
      have l := zrk_le (S := zOpS S c h o m) (r := r') (k := c) (by rw [n0]; exact hc)
      rw [zrun_val V 13 c (by rw [n0]; exact hc) (by omega)] at y
      exact absurd y (by decide)
  · rintro ⟨b, y⟩
    obtain ⟨o0, oN, o2⟩ := hb b
    have key : ∀ f x, x < zN S → (∃ g, zlead (S 4) (S 5) (c : Int) g (x : Int) = true) → zrun (zOpS S c h o m) f x = true := by
      intro f
      induction f with
      | zero => intro x _ _; rfl
      | succ f ih =>
        intro x hx ⟨g, hg⟩
        rw [zrun_s, q4, q5]
        by_cases z : x = c
        · rw [z, zu_eq, zu_eq, b, Bool.true_and]
          exact ih _ oN ⟨12, by rw [show ((o.toNat : Nat) : Int) = o by omega]; exact y⟩
        · rw [zu_ne z, zu_ne z]
          cases g with
          | zero => exact absurd hg (by show ¬ false = true; decide)
          | succ g =>
            rw [zlead_s, if_neg (by omega), Int.toNat_natCast] at hg
            by_cases bx : zby (S 4 x) = true
            · rw [if_pos bx] at hg
              have ot := hv.oth hx bx
              rw [bx, Bool.true_and]
              exact ih _ ot.2.1 ⟨g, by rw [show (((S 5 x).toNat : Nat) : Int) = S 5 x by omega]; exact hg⟩
            · rw [if_neg bx] at hg; exact absurd hg (by decide)
    exact key 13 c hc ⟨1, by rw [zlead_s, if_pos rfl]⟩
theorem c_Md_isByOther {G : zG} {n : Nat} {σ : zSt} {b k : Nat} (hn : 220 ≤ n) (hb : b = 0 ∨ b = 1746) (hk : k < 12) (hr : zr (σ 190 (b + 146 + k))) : Gm G y_Md_isByOther m_Md_isByOther 1 0 0 [vr G 189, vi (b : Int), vi (k : Int)] n SH σ (zI n SH (fun a σ' => a = (if zby (σ 190 (b + 146 + k)) = true then 1 else 0) ∧ σ' = σ)) := by
  refine g_enter (L := [(0, _), (1, _), (2, _)]) (by decide) rfl rfl rfl (Nat.le_of_ble_eq_true rfl) (fun X => ?_)
  refine g_aload_n (i := 0) (by decide +kernel) rfl ?_
  refine g_getr f_Md_7 (by decide +kernel) (by omega) rfl rfl ?_
  refine g_iload_n (i := 1) (by decide +kernel) rfl ?_
  refine g_sipush (a := 146) (by decide +kernel) (by decide) ?_
  refine g_iadd (by decide +kernel) ?_
  refine g_iload_n (i := 2) (by decide +kernel) rfl ?_
  refine g_iadd (by decide +kernel) ?_
  refine g_iald (j := (b + 146 + k)) (by decide +kernel) (by omega) rfl (by omega) (by omega) (by decide) ?_
  refine g_iconst (a := 1) (by decide +kernel) ?_
  refine g_iconst (a := 2) (by decide +kernel) ?_
  refine g_cSI (st := _) (c_Md_isIn hr ⟨by omega, by omega⟩ ⟨by omega, by omega⟩) k_Md_isIn l_Md_152 (by decide +kernel) rfl rfl (Nat.le_of_ble_eq_true rfl) (by decide) ⟨by decide, by decide⟩ ?_
  rintro a9 σ9 ⟨ea9, hσ9⟩
  obtain rfl := hσ9.symm
  refine g_retI (by decide +kernel) rfl (Or.inr ⟨rfl, by rw [ea9]; exact zb01⟩) ⟨by decide, by decide⟩ ?_
  refine ⟨?_, rfl⟩
  rw [ea9]
  by_cases z : 1 ≤ σ 190 (b + 146 + k) ∧ σ 190 (b + 146 + k) ≤ 2
  · have y : zby (σ 190 (b + 146 + k)) = true := decide_eq_true (by omega)
    rw [if_pos z, if_pos y]
  · rw [if_neg z, if_neg (fun y => by have := of_decide_eq_true y; omega)]
theorem w_Md_isRound {G : zG} {X : zX} {n : Nat} {σ : zSt} {x2 : Int} {q : Bool} {T : zSt} {b : Nat} {D : Nat → Prop} (hn : 220 ≤ n) (hb : b = 0 ∨ b = 1746) (hD : ∀ x, D x → x < 12 ∧ σ 190 (b + 146 + x) = T 4 x ∧ (0 ≤ T 4 x ∧ T 4 x ≤ 3) ∧ (zby (T 4 x) = true → σ 190 (b + 158 + x) = T 5 x ∧ 0 ≤ T 5 x ∧ D (T 5 x).toNat))  : ∀ (m : Nat) (i x : Nat) (x3 x4 : Int), x3 = (i : Int) → x4 = (x : Int) → D x → q = zrun T (13 - i) x → i ≤ 13 → 13 < i + m → Go G X m_Md_isRound (2, 0, 0, 0, 0) n SH σ 5 [(0, vr G 189), (1, vi (b : Int)), (2, vi x2), (3, vi x3), (4, vi x4)] [] (zI n SH (fun a σ' => a = (if q = true then 1 else 0) ∧ σ' = σ)) := by
  intro m
  induction m with
  | zero => intro i x x3 x4 e3 e4 hx eq hi hm; exact absurd hm (by omega)
  | succ m ih =>
    intro i x x3 x4 e3 e4 hx eq hi hm
    subst e3 e4
    obtain ⟨x12, t4, r4, t5⟩ := hD x hx
    refine g_iload_n (i := 3) (by decide +kernel) rfl ?_
    refine g_bipush (a := 12) (by decide +kernel) (by decide) ?_
    refine g_icmp_gt (off := 34) (tgt := 42) (by decide +kernel) (by decide) ⟨by omega, by omega⟩ ⟨by omega, by omega⟩ (fun h8 => ?_) (fun h8 => ?_)
    · refine g_iload_n (i := 3) (by decide +kernel) rfl ?_
      refine g_bipush (a := 12) (by decide +kernel) (by decide) ?_
      refine g_icmp_le (off := 7) (tgt := 52) (by decide +kernel) (by decide) ⟨by omega, by omega⟩ ⟨by omega, by omega⟩ (fun h45 => ?_) (fun h45 => ?_)
      · refine g_iconst (a := 0) (by decide +kernel) ?_
        refine g_retI (by decide +kernel) rfl (Or.inr ⟨rfl, by omega⟩) ⟨by decide, by decide⟩ ?_
        refine ⟨?_, rfl⟩
        first
          | (exfalso; omega)
          | (have z : i = 13 := by omega
             subst z
             rw [if_pos (by rw [eq]; rfl)])
          | (have hz : ¬ zby (σ 190 (b + 146 + x)) = true := h18
             rw [t4] at hz
             rw [if_neg (by rw [eq, st, Bool.eq_false_iff.mpr hz, Bool.false_and]; decide)])
          | (exfalso; omega)
      · refine g_iconst (a := 1) (by decide +kernel) ?_
        refine g_goto (off := 4) (tgt := 53) (by decide +kernel) (by decide) ?_
        refine g_retI (by decide +kernel) rfl (Or.inr ⟨rfl, by omega⟩) ⟨by decide, by decide⟩ ?_
        refine ⟨?_, rfl⟩
        first
          | (exfalso; omega)
          | (have z : i = 13 := by omega
             subst z
             rw [if_pos (by rw [eq]; rfl)])
          | (have hz : ¬ zby (σ 190 (b + 146 + x)) = true := h18
             rw [t4] at hz
             rw [if_neg (by rw [eq, st, Bool.eq_false_iff.mpr hz, Bool.false_and]; decide)])
          | (exfalso; omega)
    · have st := zrun_s T (12 - i) x
      rw [show 12 - i + 1 = 13 - i by omega] at st
      refine g_aload_n (i := 0) (by decide +kernel) rfl ?_
      refine g_iload_n (i := 1) (by decide +kernel) rfl ?_
      refine g_iload (i := 4) (by decide +kernel) rfl ?_
      refine g_cVI (st := _) (c_Md_isByOther (b := b) (k := x) hn hb x12 (by rw [t4]; exact ⟨by omega, by omega⟩)) k_Md_isByOther l_Md_284 (by decide +kernel) (by omega) rfl rfl rfl rfl (Nat.le_of_ble_eq_true rfl) (by decide) ⟨by decide, by decide⟩ ?_
      rintro a9 σ9 ⟨ea9, hσ9⟩
      obtain rfl := hσ9.symm
      subst ea9
      refine g_if_eq (off := 24) (tgt := 42) (by decide +kernel) (by decide) zbr (fun h18 => ?_) (fun h18 => ?_)
      · have h18 := zb0.mp h18
        refine g_iload_n (i := 3) (by decide +kernel) rfl ?_
        refine g_bipush (a := 12) (by decide +kernel) (by decide) ?_
        refine g_icmp_le (off := 7) (tgt := 52) (by decide +kernel) (by decide) ⟨by omega, by omega⟩ ⟨by omega, by omega⟩ (fun h45 => ?_) (fun h45 => ?_)
        · refine g_iconst (a := 0) (by decide +kernel) ?_
          refine g_retI (by decide +kernel) rfl (Or.inr ⟨rfl, by omega⟩) ⟨by decide, by decide⟩ ?_
          refine ⟨?_, rfl⟩
          first
            | (exfalso; omega)
            | (have z : i = 13 := by omega
               subst z
               rw [if_pos (by rw [eq]; rfl)])
            | (have hz : ¬ zby (σ 190 (b + 146 + x)) = true := h18
               rw [t4] at hz
               rw [if_neg (by rw [eq, st, Bool.eq_false_iff.mpr hz, Bool.false_and]; decide)])
            | (exfalso; omega)
        · refine g_iconst (a := 1) (by decide +kernel) ?_
          refine g_goto (off := 4) (tgt := 53) (by decide +kernel) (by decide) ?_
          refine g_retI (by decide +kernel) rfl (Or.inr ⟨rfl, by omega⟩) ⟨by decide, by decide⟩ ?_
          refine ⟨?_, rfl⟩
          first
            | (exfalso; omega)
            | (have z : i = 13 := by omega
               subst z
               rw [if_pos (by rw [eq]; rfl)])
            | (have hz : ¬ zby (σ 190 (b + 146 + x)) = true := h18
               rw [t4] at hz
               rw [if_neg (by rw [eq, st, Bool.eq_false_iff.mpr hz, Bool.false_and]; decide)])
            | (exfalso; omega)
      · have h18 := zb1.mp h18
        have h18 : zby (T 4 x) = true := by rw [← t4]; exact h18
        obtain ⟨u1, u2, u3⟩ := t5 h18
        refine g_iinc (i := 3) (b := 1) (L' := [(0, _), (1, _), (2, _), (3, _), (4, _)]) (by decide +kernel) rfl rfl rfl ?_
        refine g_aload_n (i := 0) (by decide +kernel) rfl ?_
        refine g_getr f_Md_7 (by decide +kernel) (by omega) rfl rfl ?_
        refine g_iload_n (i := 1) (by decide +kernel) rfl ?_
        refine g_sipush (a := 158) (by decide +kernel) (by decide) ?_
        refine g_iadd (by decide +kernel) ?_
        refine g_iload (i := 4) (by decide +kernel) rfl ?_
        refine g_iadd (by decide +kernel) ?_
        refine g_iald (j := (b + 158 + x)) (by decide +kernel) (by omega) rfl (by omega) (by omega) (by decide) ?_
        refine g_istore (i := 4) (L' := [(0, _), (1, _), (2, _), (3, _), (4, _)]) (by decide +kernel) rfl rfl ?_
        refine g_goto (off := -34) (tgt := 5) (by decide +kernel) (by decide) ?_
        exact ih (i + 1) (T 5 x).toNat _ _ (by push_cast; rfl) (by rw [u1]; omega) u3 (by rw [eq, st, h18, Bool.true_and, show 13 - (i + 1) = 12 - i by omega]) (by omega) (by omega)
theorem c_Md_isRound {G : zG} {n : Nat} {σ : zSt} {x : Nat} {T : zSt} {b : Nat} {D : Nat → Prop} (hn : 220 ≤ n) (hb : b = 0 ∨ b = 1746) (hD : ∀ x, D x → x < 12 ∧ σ 190 (b + 146 + x) = T 4 x ∧ (0 ≤ T 4 x ∧ T 4 x ≤ 3) ∧ (zby (T 4 x) = true → σ 190 (b + 158 + x) = T 5 x ∧ 0 ≤ T 5 x ∧ D (T 5 x).toNat)) (hx : D x) : Gm G y_Md_isRound m_Md_isRound 2 0 0 [vr G 189, vi (b : Int), vi (x : Int)] n SH σ (zI n SH (fun a σ' => a = (if zrun T 13 x = true then 1 else 0) ∧ σ' = σ)) := by
  refine g_enter (L := [(0, _), (1, _), (2, _)]) (by decide) rfl rfl rfl (Nat.le_of_ble_eq_true rfl) (fun X => ?_)
  refine g_iconst (a := 0) (by decide +kernel) ?_
  refine g_istore_n (i := 3) (L' := [(0, _), (1, _), (2, _), (3, _)]) (by decide +kernel) rfl rfl ?_
  refine g_iload_n (i := 2) (by decide +kernel) rfl ?_
  refine g_istore (i := 4) (L' := [(0, _), (1, _), (2, _), (3, _), (4, _)]) (by decide +kernel) rfl rfl ?_
  exact w_Md_isRound (q := zrun T 13 x) hn hb hD 14 0 x _ _ rfl rfl hx rfl (by omega) (by omega)
theorem c_Md_isInHeap {G : zG} {n : Nat} {σ : zSt} {S : zSt} {k : Nat} (hn : 220 ≤ n) (hS : zMc σ S) (hk : k < zN S) : Gm G y_Md_isInHeap m_Md_isInHeap 1 0 0 [vr G 189, vi (k : Int)] n SH σ (zI n SH (fun a σ' => a = (if S 2 k ≠ -1 ∧ S 1 (S 2 k).toNat = 1 then 1 else 0) ∧ σ' = σ)) := by
  refine g_enter (L := [(0, _), (1, _)]) (by decide) rfl rfl rfl (Nat.le_of_ble_eq_true rfl) (fun X => ?_)
  have e0 := hS.n
  have e8 := hS.p
  have hN := hS.N
  have hz : zN S = (S 0 0).toNat := rfl
  have e2 := hS.ar hk
  have r2 := (hS.rg (show k < 12 by omega)).2.1
  have tr : S 2 k < k := by obtain ⟨⟨d, r, hv⟩, -⟩ := hS.2.2; exact (hv.2.1 k hk).1
  refine g_aload_n (i := 0) (by decide +kernel) rfl ?_
  refine g_iload_n (i := 1) (by decide +kernel) rfl ?_
  refine g_cVI (st := _) (c_Md_around (k := k) hn (by omega)) k_Md_around l_Md_169 (by decide +kernel) (by omega) rfl rfl rfl rfl (Nat.le_of_ble_eq_true rfl) (by decide) ⟨by decide, by decide⟩ ?_
  rintro a9 σ9 ⟨ea9, hσ9⟩
  obtain rfl := hσ9.symm
  rw [e2] at ea9
  subst ea9
  refine g_if_lt (off := 20) (tgt := 25) (by decide +kernel) (by decide) ⟨by omega, by omega⟩ (fun h5 => ?_) (fun h5 => ?_)
  · refine g_iconst (a := 0) (by decide +kernel) ?_
    refine g_retI (by decide +kernel) rfl (Or.inr ⟨rfl, by omega⟩) ⟨by decide, by decide⟩ ?_
    refine ⟨?_, rfl⟩
    first
      | (rw [if_pos ⟨by omega, by rw [tq]; omega⟩])
      | (rw [if_neg (fun y => by have := y.2; rw [tq] at this; omega)])
      | (rw [if_neg (fun y => by omega)])
  · obtain ⟨q, eq⟩ := Int.eq_ofNat_of_zero_le (show 0 ≤ S 2 k by omega)
    have qN : q < zN S := by omega
    have e1 := hS.kd qN
    have r1 := (hS.rg (show q < 12 by omega)).1
    have tq : (S 2 k).toNat = q := by omega
    refine g_aload_n (i := 0) (by decide +kernel) rfl ?_
    refine g_aload_n (i := 0) (by decide +kernel) rfl ?_
    refine g_iload_n (i := 1) (by decide +kernel) rfl ?_
    refine g_cVI (st := _) (c_Md_around (k := k) hn (by omega)) k_Md_around l_Md_169 (by decide +kernel) (by omega) rfl rfl rfl rfl (Nat.le_of_ble_eq_true rfl) (by decide) ⟨by decide, by decide⟩ ?_
    rintro a9 σ9 ⟨ea9, hσ9⟩
    obtain rfl := hσ9.symm
    rw [e2, eq] at ea9
    subst ea9
    refine g_cVI (st := _) (c_Md_kind (k := q) hn (by omega)) k_Md_kind l_Md_182 (by decide +kernel) (by omega) rfl rfl rfl rfl (Nat.le_of_ble_eq_true rfl) (by decide) ⟨by decide, by decide⟩ ?_
    rintro b9 σ8 ⟨eb9, hσ8⟩
    obtain rfl := hσ8.symm
    rw [e1] at eb9
    subst eb9
    refine g_iconst (a := 1) (by decide +kernel) ?_
    refine g_icmp_ne (off := 7) (tgt := 25) (by decide +kernel) (by decide) ⟨by omega, by omega⟩ ⟨by omega, by omega⟩ (fun h18 => ?_) (fun h18 => ?_)
    · refine g_iconst (a := 0) (by decide +kernel) ?_
      refine g_retI (by decide +kernel) rfl (Or.inr ⟨rfl, by omega⟩) ⟨by decide, by decide⟩ ?_
      refine ⟨?_, rfl⟩
      first
        | (rw [if_pos ⟨by omega, by rw [tq]; omega⟩])
        | (rw [if_neg (fun y => by have := y.2; rw [tq] at this; omega)])
        | (rw [if_neg (fun y => by omega)])
    · refine g_iconst (a := 1) (by decide +kernel) ?_
      refine g_goto (off := 4) (tgt := 26) (by decide +kernel) (by decide) ?_
      refine g_retI (by decide +kernel) rfl (Or.inr ⟨rfl, by omega⟩) ⟨by decide, by decide⟩ ?_
      refine ⟨?_, rfl⟩
      first
        | (rw [if_pos ⟨by omega, by rw [tq]; omega⟩])
        | (rw [if_neg (fun y => by have := y.2; rw [tq] at this; omega)])
        | (rw [if_neg (fun y => by omega)])
