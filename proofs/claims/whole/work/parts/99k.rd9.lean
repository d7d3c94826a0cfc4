/-! THE DRAFT IS A SHOW: those not yet bound count as if they started by themselves -/
def zunb (D : zSt) (j : Nat) : Prop := j < zN D ∧ zby (D 4 j) = true ∧ D 5 j = -1
noncomputable def zneu (D : zSt) : zSt := by
  classical
  exact zrow D 4 (fun j => if zunb D j then 0 else D 4 j)
theorem zneu_o (D : zSt) {r : Nat} (h : r ≠ 4) : zneu D r = D r := zrow_ne h
theorem zneu_N (D : zSt) : zN (zneu D) = zN D := by unfold zN; rw [zneu_o D (by decide)]
theorem zneu_y {D : zSt} {j : Nat} (h : zunb D j) : zneu D 4 j = 0 := by
  unfold zneu zrow
  rw [if_pos rfl, if_pos h]
theorem zneu_n {D : zSt} {j : Nat} (h : ¬ zunb D j) : zneu D 4 j = D 4 j := by
  unfold zneu zrow
  rw [if_pos rfl, if_neg h]
theorem zby0 : zby 0 = false := by decide
theorem zneu_app {D : zSt} {x y p : Int} (h0 : 0 ≤ D 0 0) : zneu (zApp D 0 x y p) = zApp (zneu D) 0 x y p := by
  obtain ⟨r0, r1, r2, r3, r4, r5, r6, r7, r8⟩ := zApp_r D x y p
  obtain ⟨s0, s1, s2, s3, s4, s5, s6, s7, s8⟩ := zApp_r (zneu D) x y p
  rw [zneu_N] at s1 s2 s3 s4 s5 s6 s7
  have eN : zN (zApp D 0 x y p) = zN D + 1 := by unfold zN; rw [r0, zu_eq]; omega
  funext r
  by_cases e : r = 4
  · subst e
    rw [s4]
    funext j
    by_cases q : zunb (zApp D 0 x y p) j
    · rw [zneu_y q]
      obtain ⟨q1, q2, q3⟩ := q
      rw [r4] at q2; rw [r5] at q3; rw [eN] at q1
      by_cases w : j = zN D
      · rw [w, zu_eq]
      · rw [zu_ne w] at q2 q3 ⊢
        rw [zneu_y ⟨by omega, q2, q3⟩]
    · rw [zneu_n q, r4]
      by_cases w : j = zN D
      · rw [w, zu_eq, zu_eq]
      · rw [zu_ne w, zu_ne w, zneu_n (fun y => q ⟨by rw [eN]; have := y.1; omega, by rw [r4, zu_ne w]; exact y.2.1, by rw [r5, zu_ne w]; exact y.2.2⟩)]
  · rw [zneu_o _ e]
    rcases (show r = 0 ∨ r = 1 ∨ r = 2 ∨ r = 3 ∨ r = 5 ∨ r = 6 ∨ r = 7 ∨ 8 ≤ r by omega) with w | w | w | w | w | w | w | w
    · subst w; rw [r0, s0, zneu_o D (by decide)]
    · subst w; rw [r1, s1, zneu_o D (by decide)]
    · subst w; rw [r2, s2, zneu_o D (by decide)]
    · subst w; rw [r3, s3, zneu_o D (by decide)]
    · subst w; rw [r5, s5, zneu_o D (by decide)]
    · subst w; rw [r6, s6, zneu_o D (by decide)]
    · subst w; rw [r7, s7, zneu_o D (by decide)]
    · rw [r8 r w, s8 r w, zneu_o D (by omega)]
theorem zunb_7 {D : zSt} {i j : Nat} {v : Int} : zunb (zs D 7 i v) j ↔ zunb D j := by unfold zunb zN; rw [zs_other (by decide), zs_other (by decide), zs_other (by decide)]
theorem zneu_7 {D : zSt} {i : Nat} {v : Int} : zneu (zs D 7 i v) = zs (zneu D) 7 i v := by
  funext r
  by_cases e : r = 4
  · subst e
    funext j
    rw [zs_other (by decide)]
    by_cases q : zunb D j
    · rw [zneu_y q, zneu_y (zunb_7.mpr q)]
    · rw [zneu_n q, zneu_n (fun y => q (zunb_7.mp y)), zs_other (by decide)]
  · rw [zneu_o _ e]
    by_cases w : r = 7
    · subst w; rw [zs_row, zs_row, zneu_o D (by decide)]
    · rw [zs_other w, zs_other w, zneu_o D e]
/-- a start by another one, to be bound later; any other start -/
theorem zneu_S {D : zSt} {c : Nat} {h m : Int} (hc : c < zN D) : zneu (zOpS D c h (-1) m) = zOpS (zneu D) c (if zby h = true then 0 else h) (-1) m := by
  obtain ⟨q0, q4, q5, q6⟩ := zOpS_r D c h (-1) m
  obtain ⟨p0, p4, p5, p6⟩ := zOpS_r (zneu D) c (if zby h = true then 0 else h) (-1) m
  have eN : zN (zOpS D c h (-1) m) = zN D := by unfold zN; rw [q0 0 (by decide) (by decide) (by decide)]
  funext r
  by_cases e : r = 4
  · subst e
    rw [p4]
    funext j
    by_cases w : j = c
    · subst w
      rw [zu_eq]
      by_cases b : zby h = true
      · rw [if_pos b, zneu_y ⟨by rw [eN]; exact hc, by rw [q4, zu_eq]; exact b, by rw [q5, zu_eq]⟩]
      · rw [if_neg b, zneu_n (fun y => b (by have := y.2.1; rw [q4, zu_eq] at this; exact this)), q4, zu_eq]
    · rw [zu_ne w]
      by_cases q : zunb D j
      · rw [zneu_y q, zneu_y ⟨by rw [eN]; exact q.1, by rw [q4, zu_ne w]; exact q.2.1, by rw [q5, zu_ne w]; exact q.2.2⟩]
      · rw [zneu_n q, zneu_n (fun y => q ⟨by rw [← eN]; exact y.1, by have := y.2.1; rw [q4, zu_ne w] at this; exact this, by have := y.2.2; rw [q5, zu_ne w] at this; exact this⟩), q4, zu_ne w]
  · rw [zneu_o _ e]
    by_cases w5 : r = 5
    · subst w5; rw [q5, p5, zneu_o D (by decide)]
    · by_cases w6 : r = 6
      · subst w6; rw [q6, p6, zneu_o D (by decide)]
      · rw [q0 r e w5 w6, p0 r e w5 w6, zneu_o D e]
theorem zlead_up {h o h' o' : Nat → Int} {q : Int} (g : ∀ k, zby (h k) = true → zby (h' k) = true ∧ o' k = o k) : ∀ f x, zlead h o q f x = true → zlead h' o' q f x = true := by
  intro f
  induction f with
  | zero => intro x y; exact y
  | succ f ih =>
    intro x y
    rw [zlead_s] at y ⊢
    by_cases e : x = q
    · rw [if_pos e]
    · rw [if_neg e] at y ⊢
      by_cases b : zby (h x.toNat) = true
      · rw [if_pos b] at y
        obtain ⟨g1, g2⟩ := g _ b
        rw [if_pos g1, g2]
        exact ih _ y
      · rw [if_neg b] at y; exact absurd y (by decide)
/-- those within the clip that is closed are bound, one after another -/
theorem zneu_bd {A : zAb} (hF : zFin (zneu A.D)) (hG : zGood A.D 0) (nb : ¬ zbad A) (nr : ¬ zRng (zAD A (zbd A (zN A.D)))) (h0 : 0 ≤ A.op) (hk : A.D 1 A.op.toNat = 1) (hun : ∀ j, j < zN A.D → A.D 2 j = A.op → zby (A.D 4 j) = true → A.D 5 j = -1) : ∀ i, i ≤ zN A.D → zFin (zneu (zbd A i)) := by
  have eN : ∀ i, zN (zbd A i) = zN A.D := fun i => by unfold zN; rw [zbd_oth A i (by decide)]
  have h12 : A.D 0 0 ≤ 12 := hG.1.2.1
  have hN : zN A.D = (A.D 0 0).toNat := rfl
  intro i
  induction i with
  | zero => intro _; rw [zbd_0]; exact hF
  | succ i ih =>
    intro hi
    have hF1 := ih (by omega)
    by_cases c : A.D 2 i = A.op ∧ zby (A.D 4 i) = true
    · have cl := zbd_cl nb i (by show i < zN (zbd A (zN A.D)); rw [eN]; omega) (by show zbd A (zN A.D) 2 i = A.op; rw [zbd_oth A _ (by decide)]; exact c.1) (by show zby (zbd A (zN A.D) 4 i) = true; rw [zbd_oth A _ (by decide)]; exact c.2)
      have e5 : zbd A (zN A.D) 5 i = znmd A (A.sn i) := by rw [zbd_5, if_pos ⟨by omega, c⟩]
      have cl : 0 ≤ zbd A (zN A.D) 5 i ∧ (zbd A (zN A.D) 5 i).toNat < zN (zbd A (zN A.D)) ∧ zbd A (zN A.D) 2 (zbd A (zN A.D) 5 i).toNat = A.op := cl
      rw [e5, eN, zbd_oth A _ (show (2 : Nat) ≠ 5 by decide)] at cl
      have ne : znmd A (A.sn i) ≠ -1 := by omega
      have r4 : 0 ≤ A.D 4 i ∧ A.D 4 i ≤ 3 := (hG.2.1 i (by omega)).2.2.2.1
      have r6 : 0 ≤ A.D 6 i ∧ A.D 6 i ≤ 999 := (hG.2.1 i (by omega)).2.2.2.2.2
      have key : zneu (zbd A (i + 1)) = zOpS (zneu (zbd A i)) i (A.D 4 i) (znmd A (A.sn i)) (A.D 6 i) := by
        obtain ⟨p0, p4, p5, p6⟩ := zOpS_r (zneu (zbd A i)) i (A.D 4 i) (znmd A (A.sn i)) (A.D 6 i)
        rw [← zbd_s c]
        have oN : zN (zs (zbd A i) 5 i (znmd A (A.sn i))) = zN A.D := by unfold zN; rw [zs_other (by decide), zbd_oth A i (by decide)]
        funext r
        by_cases e : r = 4
        · subst e
          rw [p4]
          funext j
          by_cases w : j = i
          · subst w
            rw [zu_eq, zneu_n (fun y => by have := y.2.2; rw [zs_eq] at this; exact ne this), zs_other (by decide), zbd_oth A _ (by decide)]
          · rw [zu_ne w]
            by_cases q : zunb (zbd A i) j
            · rw [zneu_y q, zneu_y ⟨by rw [oN]; rw [← eN i]; exact q.1, by rw [zs_other (by decide)]; exact q.2.1, by rw [zs_ne (fun y => w y.2)]; exact q.2.2⟩]
            · rw [zneu_n q, zneu_n (fun y => q ⟨by rw [eN]; rw [← oN]; exact y.1, by have := y.2.1; rw [zs_other (by decide)] at this; exact this, by have := y.2.2; rw [zs_ne (fun y => w y.2)] at this; exact this⟩), zs_other (by decide)]
        · rw [zneu_o _ e]
          by_cases w5 : r = 5
          · subst w5; rw [p5, zs_row, zneu_o _ (by decide)]
          · by_cases w6 : r = 6
            · subst w6
              rw [p6, zs_other (by decide), zneu_o _ (by decide), zbd_oth A i (by decide)]
              funext j
              by_cases w : j = i
              · rw [w, zu_eq]
              · rw [zu_ne w]
            · rw [p0 r e w5 w6, zs_other w5, zneu_o _ e]
      rw [key]
      refine zOpS_fin hF1 (by rw [zneu_N, eN]; omega) r4 r6 (fun _ => ?_) (fun _ => ?_) (fun y => by rw [c.2] at y; exact absurd y (by decide))
      · rw [zneu_o _ (by decide), zneu_o _ (by decide), zbd_oth A i (by decide), zbd_oth A i (by decide), c.1]
        exact ⟨by omega, hk⟩
      · rw [zneu_N, eN, zneu_o _ (show (2 : Nat) ≠ 4 by decide), zbd_oth A i (show (2 : Nat) ≠ 5 by decide), zneu_o _ (show (5 : Nat) ≠ 4 by decide), c.1]
        refine ⟨cl.1, cl.2.1, cl.2.2, ?_⟩
        cases e : zlead (zneu (zbd A i) 4) (zbd A i 5) (i : Int) 12 (znmd A (A.sn i)) with
        | false => rfl
        | true =>
          refine absurd ⟨i, by show i < zN (zbd A (zN A.D)); rw [eN]; omega, by show zbd A (zN A.D) 2 i = A.op; rw [zbd_oth A _ (by decide)]; exact c.1, by show zby (zbd A (zN A.D) 4 i) = true; rw [zbd_oth A _ (by decide)]; exact c.2, ?_⟩ nr
          show zlead (zbd A (zN A.D) 4) (zbd A (zN A.D) 5) (i : Int) 12 (zbd A (zN A.D) 5 i) = true
          rw [e5]
          refine zlead_up (fun k hk2 => ?_) 12 _ e
          by_cases q : zunb (zbd A i) k
          · rw [zneu_y q] at hk2; exact absurd hk2 (by decide)
          · rw [zneu_n q, zbd_oth A i (by decide)] at hk2
            refine ⟨by rw [zbd_oth A _ (by decide)]; exact hk2, ?_⟩
            rw [zbd_5, zbd_5]
            by_cases w : k < i ∧ A.D 2 k = A.op ∧ zby (A.D 4 k) = true
            · rw [if_pos w, if_pos ⟨by omega, w.2⟩]
            · rw [if_neg w]
              by_cases w2 : k < zN A.D ∧ A.D 2 k = A.op ∧ zby (A.D 4 k) = true
              · refine absurd ⟨by rw [eN]; exact w2.1, by rw [zbd_oth A i (by decide)]; exact hk2, ?_⟩ q
                rw [zbd_5, if_neg w]; exact hun k w2.1 w2.2.1 w2.2.2
              · rw [if_neg w2]
    · rw [zbd_no c]; exact hF1
