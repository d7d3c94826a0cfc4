/-! THE STRETCH (93: first 2, last 3, step 4, local 5; row 94) -/
/-- what clip k plays at t: its local, or -1 -/
noncomputable def zplay (S : zSt) (k : Nat) (t : Nat) : Int := if zv S t 1 k = 2 then zv S t 2 k else -1
def zah (p : Nat → Int) (t : Nat) : Int := if t = 0 then -1 else p (t - 1)
def zgo (p : Nat → Int) (ev : Int) (t : Nat) (x : Nat → Int) : Bool := decide (p t ≠ -1 ∧ zah p t ≠ -1 ∧ (ev = 0 ∨ x 2 = x 3 ∨ x 4 = p t - zah p t))
def zMs (p : Nat → Int) (ev : Int) (t : Nat) (A : Int × (Nat → Int)) : Int × (Nat → Int) :=
  if zgo p ev t A.2 = true then (A.1, zu (if ev ≠ 0 ∧ A.2 2 = A.2 3 then zu A.2 4 (p t - zah p t) else A.2) 3 t)
  else if p t ≠ -1 then (A.1 + 1, zu (zu (zu (zu A.2 2 t) 3 t) 4 0) 5 (p t)) else A
/-- the pieces (ev = 1) or spans (ev = 0) of the times below t: how many, and the last one -/
def zMa (p : Nat → Int) (ev : Int) (x : Nat → Int) : Nat → Int × (Nat → Int)
  | 0 => (0, x)
  | t + 1 => zMs p ev t (zMa p ev x t)
theorem zMa_s (p : Nat → Int) (ev : Int) (x : Nat → Int) (t : Nat) : zMa p ev x (t + 1) = zMs p ev t (zMa p ev x t) := rfl
theorem zMa_n (p : Nat → Int) (ev : Int) (x : Nat → Int) : ∀ t, 0 ≤ (zMa p ev x t).1 ∧ (zMa p ev x t).1 ≤ t
  | 0 => ⟨Int.le_refl 0, Int.le_refl 0⟩
  | t + 1 => by
    have a := zMa_n p ev x t
    rw [zMa_s]
    unfold zMs
    split
    · constructor
      · exact a.1
      · show (zMa p ev x t).1 ≤ _; push_cast; omega
    · split
      · constructor
        · show 0 ≤ (zMa p ev x t).1 + 1; omega
        · show (zMa p ev x t).1 + 1 ≤ _; push_cast; omega
      · exact ⟨a.1, by push_cast; omega⟩
/-- only the stretch and the moment now have changed -/
def zFr (σ τ : zSt) : Prop := (∀ a, (a < 34 ∨ 42 ≤ a) → a ≠ 93 → τ a = σ a) ∧ zOn τ
def zRs (x : Nat → Int) : Prop := ∀ j, 2 ≤ j → j ≤ 5 → zr (x j)
/-- what walk leaves -/
def zWk (σ σ' : zSt) (p : Nat → Int) (ev w a : Int) : Prop := zFr σ σ' ∧ zRs (σ' 93) ∧ ∃ T, T ≤ 2000 ∧ (a, σ' 93) = zMa p ev (σ 93) T ∧ a ≤ w + 1 ∧ (T = 2000 ∨ (zgo p ev T (σ' 93) = false ∧ w < a))
theorem zFr.at {σ τ τ1 : zSt} {t : Int} (h : zFr σ τ) (hA : zAtP τ τ1 t) : zFr σ τ1 ∧ τ1 93 = τ 93 := ⟨⟨fun a ha h93 => by rw [hA.1 a ha]; exact h.1 a ha h93, hA.on h.2⟩, hA.1 93 (by decide)⟩
theorem zFr.v {σ τ : zSt} (h : zFr σ τ) (ho : zOn σ) (t : Int) : zv (zSv τ 1) t = zv (zSv σ 1) t := zv_low (fun a ha => h.1 a (Or.inl ha) (by omega)) ho t
theorem zFr.put {σ τ : zSt} {j : Nat} {v : Int} (h : zFr σ τ) : zFr σ (zs τ 93 j v) := ⟨fun a ha h93 => by rw [zs_other h93]; exact h.1 a ha h93, zOn_eq (fun a ha => zs_other (by omega)) h.2⟩
theorem zRs.put {x : Nat → Int} {j : Nat} {v : Int} (h : zRs x) (hv : zr v) : zRs (zu x j v) := fun i h1 h2 => by
  unfold zu
  split
  · exact hv
  · exact h i h1 h2
theorem c_Sr_keepsStep {G : zG} {n : Nat} {σ : zSt} {c : Int} (hn : 189 ≤ n) (hc : zr c) (hR : zRs (σ 93)) : Gm G y_Sr_keepsStep m_Sr_keepsStep 0 0 0 [vr G 93, vi c] n SH σ (zI n SH (fun a σ' => a = (if σ 93 2 = σ 93 3 ∨ σ 93 4 = c then 1 else 0) ∧ σ' = (if σ 93 2 = σ 93 3 then zs σ 93 4 c else σ))) := by
  refine g_enter (L := [(0, _), (1, _)]) (by decide) rfl rfl rfl (Nat.le_of_ble_eq_true rfl) (fun X => ?_)
  have r2 := hR 2 (by decide) (by decide)
  have r3 := hR 3 (by decide) (by decide)
  have r4 := hR 4 (by decide) (by decide)
  refine g_aload_n (i := 0) (by decide +kernel) rfl ?_
  refine g_geti f_Sr_23 (by decide +kernel) (by omega) rfl rfl ?_
  refine g_aload_n (i := 0) (by decide +kernel) rfl ?_
  refine g_geti f_Sr_27 (by decide +kernel) (by omega) rfl rfl ?_
  refine g_icmp_ne (off := 8) (tgt := 16) (by decide +kernel) (by decide) r2 r3 (fun h8 => ?_) (fun h8 => ?_)
  · refine g_aload_n (i := 0) (by decide +kernel) rfl ?_
    refine g_geti f_Sr_41 (by decide +kernel) (by omega) rfl rfl ?_
    refine g_iload_n (i := 1) (by decide +kernel) rfl ?_
    refine g_icmp_ne (off := 7) (tgt := 28) (by decide +kernel) (by decide) (by first | exact r4 | (rw [zs_eq]; exact hc)) hc (fun h21 => ?_) (fun h21 => ?_)
    · refine g_iconst (a := 0) (by decide +kernel) ?_
      refine g_retI (by decide +kernel) rfl (Or.inr ⟨rfl, by omega⟩) ⟨by decide, by decide⟩ ?_
      first
        | (have hz : σ 93 2 = σ 93 3 := h8
           have e4 : zs σ 93 4 c 93 4 = c := zs_eq _ _ _ _
           first
             | exact absurd e4 h21
             | (rw [if_pos (Or.inl hz), if_pos hz]; exact ⟨rfl, rfl⟩))
        | (have hz : ¬ σ 93 2 = σ 93 3 := h8
           first
             | (have hy : σ 93 4 = c := h21
                rw [if_pos (Or.inr hy), if_neg hz]; exact ⟨rfl, rfl⟩)
             | (rw [if_neg (fun q => by rcases q with q | q; exact hz q; exact h21 q), if_neg hz]; exact ⟨rfl, rfl⟩))
    · refine g_iconst (a := 1) (by decide +kernel) ?_
      refine g_goto (off := 4) (tgt := 29) (by decide +kernel) (by decide) ?_
      refine g_retI (by decide +kernel) rfl (Or.inr ⟨rfl, by omega⟩) ⟨by decide, by decide⟩ ?_
      first
        | (have hz : σ 93 2 = σ 93 3 := h8
           have e4 : zs σ 93 4 c 93 4 = c := zs_eq _ _ _ _
           first
             | exact absurd e4 h21
             | (rw [if_pos (Or.inl hz), if_pos hz]; exact ⟨rfl, rfl⟩))
        | (have hz : ¬ σ 93 2 = σ 93 3 := h8
           first
             | (have hy : σ 93 4 = c := h21
                rw [if_pos (Or.inr hy), if_neg hz]; exact ⟨rfl, rfl⟩)
             | (rw [if_neg (fun q => by rcases q with q | q; exact hz q; exact h21 q), if_neg hz]; exact ⟨rfl, rfl⟩))
  · refine g_aload_n (i := 0) (by decide +kernel) rfl ?_
    refine g_iload_n (i := 1) (by decide +kernel) rfl ?_
    refine g_puti f_Sr_41 (by decide +kernel) (by omega) rfl rfl ?_
    refine g_aload_n (i := 0) (by decide +kernel) rfl ?_
    refine g_geti f_Sr_41 (by decide +kernel) (by omega) rfl rfl ?_
    refine g_iload_n (i := 1) (by decide +kernel) rfl ?_
    refine g_icmp_ne (off := 7) (tgt := 28) (by decide +kernel) (by decide) (by first | exact r4 | (rw [zs_eq]; exact hc)) hc (fun h21 => ?_) (fun h21 => ?_)
    · refine g_iconst (a := 0) (by decide +kernel) ?_
      refine g_retI (by decide +kernel) rfl (Or.inr ⟨rfl, by omega⟩) ⟨by decide, by decide⟩ ?_
      first
        | (have hz : σ 93 2 = σ 93 3 := h8
           have e4 : zs σ 93 4 c 93 4 = c := zs_eq _ _ _ _
           first
             | exact absurd e4 h21
             | (rw [if_pos (Or.inl hz), if_pos hz]; exact ⟨rfl, rfl⟩))
        | (have hz : ¬ σ 93 2 = σ 93 3 := h8
           first
             | (have hy : σ 93 4 = c := h21
                rw [if_pos (Or.inr hy), if_neg hz]; exact ⟨rfl, rfl⟩)
             | (rw [if_neg (fun q => by rcases q with q | q; exact hz q; exact h21 q), if_neg hz]; exact ⟨rfl, rfl⟩))
    · refine g_iconst (a := 1) (by decide +kernel) ?_
      refine g_goto (off := 4) (tgt := 29) (by decide +kernel) (by decide) ?_
      refine g_retI (by decide +kernel) rfl (Or.inr ⟨rfl, by omega⟩) ⟨by decide, by decide⟩ ?_
      first
        | (have hz : σ 93 2 = σ 93 3 := h8
           have e4 : zs σ 93 4 c 93 4 = c := zs_eq _ _ _ _
           first
             | exact absurd e4 h21
             | (rw [if_pos (Or.inl hz), if_pos hz]; exact ⟨rfl, rfl⟩))
        | (have hz : ¬ σ 93 2 = σ 93 3 := h8
           first
             | (have hy : σ 93 4 = c := h21
                rw [if_pos (Or.inr hy), if_neg hz]; exact ⟨rfl, rfl⟩)
             | (rw [if_neg (fun q => by rcases q with q | q; exact hz q; exact h21 q), if_neg hz]; exact ⟨rfl, rfl⟩))
/-- it has counted one more than wanted at most -/
theorem zMa_w {p : Nat → Int} {ev w x4 : Int} {x y : Nat → Int} {t : Nat} (hw : 0 ≤ w) (h : (x4, y) = zMa p ev x t) (hq : ∀ s, s < t → zgo p ev s (zMa p ev x s).2 = false → (zMa p ev x s).1 ≤ w) : x4 ≤ w + 1 := by
  have key : ∀ t, (∀ s, s < t → zgo p ev s (zMa p ev x s).2 = false → (zMa p ev x s).1 ≤ w) → (zMa p ev x t).1 ≤ w + 1 := by
    intro t
    induction t with
    | zero => intro _; show (0 : Int) ≤ w + 1; omega
    | succ t ih =>
      intro hq
      have a := ih (fun s hs => hq s (by omega))
      rw [zMa_s]
      unfold zMs
      split
      · exact a
      · next z =>
        have b := hq t (by omega) (by cases hg : zgo p ev t (zMa p ev x t).2 with | false => rfl | true => exact absurd hg z)
        split
        · show (zMa p ev x t).1 + 1 ≤ w + 1; omega
        · exact a
  have := key t hq
  rw [← h] at this
  exact this
section WALK
variable {σ τ υ : zSt} {p : Nat → Int} {ev w x4 : Int} {t : Nat}
/-- a time that goes on, and one that doesn't -/
theorem zMa_go (h : (x4, τ 93) = zMa p ev (σ 93) t) (hg : zgo p ev t (τ 93) = true) (hU : υ 93 = (if ev ≠ 0 ∧ τ 93 2 = τ 93 3 then zu (τ 93) 4 (p t - zah p t) else τ 93)) : (x4, zs υ 93 3 (t : Int) 93) = zMa p ev (σ 93) (t + 1) := by
  rw [zMa_s, ← h]
  unfold zMs
  rw [if_pos hg, zs_row, hU]
theorem zMa_new (h : (x4, τ 93) = zMa p ev (σ 93) t) (hg : zgo p ev t (τ 93) = false) (hp : p t ≠ -1) : (x4 + 1, zs (zs (zs (zs τ 93 2 (t : Int)) 93 3 (t : Int)) 93 4 0) 93 5 (p t) 93) = zMa p ev (σ 93) (t + 1) := by
  rw [zMa_s, ← h]
  unfold zMs
  rw [if_neg (by rw [hg]; decide), if_pos hp]
  simp only [zs_row]
theorem zMa_not (h : (x4, τ 93) = zMa p ev (σ 93) t) (hg : zgo p ev t (τ 93) = false) (hp : p t = -1) : (x4, τ 93) = zMa p ev (σ 93) (t + 1) := by
  rw [zMa_s, ← h]
  unfold zMs
  rw [if_neg (by rw [hg]; decide), if_neg (fun q => q hp)]
theorem zq_go (h : (x4, τ 93) = zMa p ev (σ 93) t) (hq : ∀ s, s < t → zgo p ev s (zMa p ev (σ 93) s).2 = false → (zMa p ev (σ 93) s).1 ≤ w) (hg : zgo p ev t (τ 93) = true ∨ x4 ≤ w) : ∀ s, s < t + 1 → zgo p ev s (zMa p ev (σ 93) s).2 = false → (zMa p ev (σ 93) s).1 ≤ w := fun s hs => by
  rcases Nat.lt_or_ge s t with z | z
  · exact hq s z
  · rw [show s = t by omega, ← h]
    intro q
    rcases hg with g | g
    · have q : zgo p ev t (τ 93) = false := q
      rw [g] at q; cases q
    · exact g
end WALK
theorem w_Sr_walk {G : zG} {X : zX} {n : Nat} {σ : zSt} {k : Nat} {w ev : Int} (hn : 189 ≤ n) (ho : zOn σ) (hk : k < (σ 1 0).toNat) (hw : zr w ∧ 0 ≤ w) (hev : ev = 0 ∨ ev = 1) : ∀ (m : Nat) (t : Nat) (x4 x5 x6 : Int) (τ : zSt), x6 = (t : Int) → zFr σ τ → (x4, τ 93) = zMa (zplay (zSv σ 1) k) ev (σ 93) t → x5 = zah (zplay (zSv σ 1) k) t → (-1 ≤ x5 ∧ x5 ≤ 1000000000) → zRs (τ 93) → (∀ s, s < t → zgo (zplay (zSv σ 1) k) ev s (zMa (zplay (zSv σ 1) k) ev (σ 93) s).2 = false → (zMa (zplay (zSv σ 1) k) ev (σ 93) s).1 ≤ w) → t ≤ 2000 → 2000 < t + m → Go G X m_Sr_walk (5, 0, 0, 0, 0) n SH τ 9 [(0, vr G 93), (1, vi k), (2, vi w), (3, vi ev), (4, vi x4), (5, vi x5), (6, vi x6)] [] (zI n SH (fun a σ' => zWk σ σ' (zplay (zSv σ 1) k) ev w a)) := by
  intro m
  induction m with
  | zero => intro t x4 x5 x6 τ e6 hF hA0 e5 hx5 hR hq ht hm; exact absurd hm (by omega)
  | succ m ih =>
    intro t x4 x5 x6 τ e6 hF hA0 e5 hx5 hR hq ht hm
    have hc := ho.1.1
    have k12 : k < 12 := by omega
    have nn := zMa_n (zplay (zSv σ 1) k) ev (σ 93) t
    rw [← hA0] at nn
    have n1 : 0 ≤ x4 ∧ x4 ≤ t := nn
    have fw : x4 ≤ w + 1 := zMa_w hw.2 hA0 hq
    have hwr := hw.1
    subst e6
    have J72 : ∀ (υ : zSt), t < 2000 → (-1 ≤ (zplay (zSv σ 1) k) t ∧ (zplay (zSv σ 1) k) t ≤ 1000000000) → zFr σ υ → zRs (υ 93) → zgo (zplay (zSv σ 1) k) ev t (τ 93) = true → υ 93 = (if ev ≠ 0 ∧ τ 93 2 = τ 93 3 then zu (τ 93) 4 ((zplay (zSv σ 1) k) t - zah (zplay (zSv σ 1) k) t) else τ 93) → Go G X m_Sr_walk (5, 0, 0, 0, 0) n SH υ 72 [(0, vr G 93), (1, vi k), (2, vi w), (3, vi ev), (4, vi x4), (5, vi x5), (6, vi (t : Int)), (7, vi ((zplay (zSv σ 1) k) t)), (8, vi 1)] [] (zI n SH (fun a σ' => zWk σ σ' (zplay (zSv σ 1) k) ev w a)) := by
      intro υ ht2 h7 fU rU hgo eU
      have rU2 : zRs (zs υ 93 3 (t : Int) 93) := by rw [zs_row]; exact rU.put ⟨by omega, by omega⟩
      refine g_aload_n (i := 0) (by decide +kernel) rfl ?_
      refine g_iload (i := 6) (by decide +kernel) rfl ?_
      refine g_puti f_Sr_27 (by decide +kernel) (by omega) rfl rfl ?_
      refine g_goto (off := 44) (tgt := 122) (by decide +kernel) (by decide) ?_
      refine g_iload (i := 7) (by decide +kernel) rfl ?_
      refine g_istore (i := 5) (L' := [(0, _), (1, _), (2, _), (3, _), (4, _), (5, _), (6, _), (7, _), (8, _)]) (by decide +kernel) rfl rfl ?_
      refine g_iinc (i := 6) (b := 1) (L' := [(0, _), (1, _), (2, _), (3, _), (4, _), (5, _), (6, _), (7, _), (8, _)]) (by decide +kernel) rfl rfl rfl ?_
      refine g_goto (off := -120) (tgt := 9) (by decide +kernel) (by decide) ?_
      refine g_less [0, 1, 2, 3, 4, 5, 6] rfl (ih (t + 1) _ _ _ _ (by push_cast; rfl) fU.put (zMa_go hA0 hgo eU) (by unfold zah; rw [if_neg (by omega)]; rfl) h7 rU2 (zq_go hA0 hq (Or.inl hgo)) (by omega) (by omega))
    have J81 : ∀ (υ : zSt), t < 2000 → (-1 ≤ (zplay (zSv σ 1) k) t ∧ (zplay (zSv σ 1) k) t ≤ 1000000000) → zFr σ υ → υ 93 = τ 93 → zgo (zplay (zSv σ 1) k) ev t (τ 93) = false → Go G X m_Sr_walk (5, 0, 0, 0, 0) n SH υ 81 [(0, vr G 93), (1, vi k), (2, vi w), (3, vi ev), (4, vi x4), (5, vi x5), (6, vi (t : Int)), (7, vi ((zplay (zSv σ 1) k) t)), (8, vi 0)] [] (zI n SH (fun a σ' => zWk σ σ' (zplay (zSv σ 1) k) ev w a)) := by
      intro υ ht2 h7 fU eU hgo
      have rU : zRs (υ 93) := by rw [eU]; exact hR
      have hA1 : (x4, υ 93) = zMa (zplay (zSv σ 1) k) ev (σ 93) t := by rw [eU]; exact hA0
      have hg1 : zgo (zplay (zSv σ 1) k) ev t (υ 93) = false := by rw [eU]; exact hgo
      refine g_iload (i := 4) (by decide +kernel) rfl ?_
      refine g_iload_n (i := 2) (by decide +kernel) rfl ?_
      refine g_icmp_le (off := 6) (tgt := 90) (by decide +kernel) (by decide) ⟨by omega, by omega⟩ hwr (fun h84 => ?_) (fun h84 => ?_)
      · refine g_iload (i := 7) (by decide +kernel) rfl ?_
        refine g_iconst (a := -1) (by decide +kernel) ?_
        refine g_icmp_eq (off := 29) (tgt := 122) (by decide +kernel) (by decide) ⟨by omega, by omega⟩ ⟨by omega, by omega⟩ (fun h93 => ?_) (fun h93 => ?_)
        · refine g_iload (i := 7) (by decide +kernel) rfl ?_
          refine g_istore (i := 5) (L' := [(0, _), (1, _), (2, _), (3, _), (4, _), (5, _), (6, _), (7, _), (8, _)]) (by decide +kernel) rfl rfl ?_
          refine g_iinc (i := 6) (b := 1) (L' := [(0, _), (1, _), (2, _), (3, _), (4, _), (5, _), (6, _), (7, _), (8, _)]) (by decide +kernel) rfl rfl rfl ?_
          refine g_goto (off := -120) (tgt := 9) (by decide +kernel) (by decide) ?_
          first
            | (have hz : (zplay (zSv σ 1) k) t = -1 := h93
               exact g_less [0, 1, 2, 3, 4, 5, 6] rfl (ih (t + 1) _ _ _ _ (by push_cast; rfl) fU (zMa_not hA1 hg1 hz) (by unfold zah; rw [if_neg (by omega)]; rfl) h7 rU (zq_go hA0 hq (Or.inr (by omega))) (by omega) (by omega)))
            | (have hz : ¬ (zplay (zSv σ 1) k) t = -1 := h93
               refine g_less [0, 1, 2, 3, 4, 5, 6] rfl (ih (t + 1) _ _ _ _ (by push_cast; rfl) fU.put.put.put.put (zMa_new hA1 hg1 hz) (by unfold zah; rw [if_neg (by omega)]; rfl) h7 ?_ (zq_go hA0 hq (Or.inr (by omega))) (by omega) (by omega))
               simp only [zs_row]
               exact (((rU.put ⟨by omega, by omega⟩).put ⟨by omega, by omega⟩).put ⟨by omega, by omega⟩).put ⟨by omega, by omega⟩)
        · refine g_iinc (i := 4) (b := 1) (L' := [(0, _), (1, _), (2, _), (3, _), (4, _), (5, _), (6, _), (7, _), (8, _)]) (by decide +kernel) rfl rfl rfl ?_
          refine g_aload_n (i := 0) (by decide +kernel) rfl ?_
          refine g_iload (i := 6) (by decide +kernel) rfl ?_
          refine g_puti f_Sr_23 (by decide +kernel) (by omega) rfl rfl ?_
          refine g_aload_n (i := 0) (by decide +kernel) rfl ?_
          refine g_iload (i := 6) (by decide +kernel) rfl ?_
          refine g_puti f_Sr_27 (by decide +kernel) (by omega) rfl rfl ?_
          refine g_aload_n (i := 0) (by decide +kernel) rfl ?_
          refine g_iconst (a := 0) (by decide +kernel) ?_
          refine g_puti f_Sr_41 (by decide +kernel) (by omega) rfl rfl ?_
          refine g_aload_n (i := 0) (by decide +kernel) rfl ?_
          refine g_iload (i := 7) (by decide +kernel) rfl ?_
          refine g_puti f_Sr_56 (by decide +kernel) (by omega) rfl rfl ?_
          refine g_iload (i := 7) (by decide +kernel) rfl ?_
          refine g_istore (i := 5) (L' := [(0, _), (1, _), (2, _), (3, _), (4, _), (5, _), (6, _), (7, _), (8, _)]) (by decide +kernel) rfl rfl ?_
          refine g_iinc (i := 6) (b := 1) (L' := [(0, _), (1, _), (2, _), (3, _), (4, _), (5, _), (6, _), (7, _), (8, _)]) (by decide +kernel) rfl rfl rfl ?_
          refine g_goto (off := -120) (tgt := 9) (by decide +kernel) (by decide) ?_
          first
            | (have hz : (zplay (zSv σ 1) k) t = -1 := h93
               exact g_less [0, 1, 2, 3, 4, 5, 6] rfl (ih (t + 1) _ _ _ _ (by push_cast; rfl) fU (zMa_not hA1 hg1 hz) (by unfold zah; rw [if_neg (by omega)]; rfl) h7 rU (zq_go hA0 hq (Or.inr (by omega))) (by omega) (by omega)))
            | (have hz : ¬ (zplay (zSv σ 1) k) t = -1 := h93
               refine g_less [0, 1, 2, 3, 4, 5, 6] rfl (ih (t + 1) _ _ _ _ (by push_cast; rfl) fU.put.put.put.put (zMa_new hA1 hg1 hz) (by unfold zah; rw [if_neg (by omega)]; rfl) h7 ?_ (zq_go hA0 hq (Or.inr (by omega))) (by omega) (by omega))
               simp only [zs_row]
               exact (((rU.put ⟨by omega, by omega⟩).put ⟨by omega, by omega⟩).put ⟨by omega, by omega⟩).put ⟨by omega, by omega⟩)
      · refine g_iload (i := 4) (by decide +kernel) rfl ?_
        refine g_retI (by decide +kernel) rfl (Or.inl rfl) ⟨by decide, by decide⟩ ?_
        exact ⟨fU, rU, t, by omega, hA1, fw, Or.inr ⟨hg1, by omega⟩⟩
    refine g_iload (i := 6) (by decide +kernel) rfl ?_
    refine g_sipush (a := 1999) (by decide +kernel) (by decide) ?_
    refine g_icmp_gt (off := 118) (tgt := 132) (by decide +kernel) (by decide) ⟨by omega, by omega⟩ ⟨by omega, by omega⟩ (fun h14 => ?_) (fun h14 => ?_)
    · refine g_iload (i := 4) (by decide +kernel) rfl ?_
      refine g_retI (by decide +kernel) rfl (Or.inl rfl) ⟨by decide, by decide⟩ ?_
      exact ⟨hF, hR, 2000, Nat.le_refl _, by rw [show (2000 : Nat) = t by omega]; exact hA0, fw, Or.inl rfl⟩
    · refine g_aload_n (i := 0) (by decide +kernel) rfl ?_
      refine g_getr f_Sr_15 (by decide +kernel) (by omega) rfl rfl ?_
      refine g_iload (i := 6) (by decide +kernel) rfl ?_
      refine g_cVO (st := []) (c_Sg_at (t := (t : Int)) hn hF.2 ⟨by omega, by omega⟩) k_Sg_at l_Sr_30 (by decide +kernel) (by omega) rfl rfl rfl rfl (Nat.le_of_ble_eq_true rfl) (by decide) ⟨by decide, by decide⟩ ?_
      rintro q τ1 ⟨eq, hA⟩
      subst eq
      have F1 := hF.at hA
      refine g_iload_n (i := 1) (by decide +kernel) rfl ?_
      have kT : k < (τ 1 0).toNat := by rw [hF.1 1 (by decide) (by decide)]; exact hk
      have mr := F1.1.2.mr.2 k k12
      have ep : (if τ1 35 k = 2 then τ1 36 k else -1) = (zplay (zSv σ 1) k) t := by
        unfold zplay
        rw [show τ1 35 k = zv (zSv σ 1) t 1 k by rw [← hF.v ho]; exact hA.2.2.1 k kT 1 (by decide) (by decide), show τ1 36 k = zv (zSv σ 1) t 2 k by rw [← hF.v ho]; exact hA.2.2.1 k kT 2 (by decide) (by decide)]
      have m2 : -1 ≤ τ1 36 k ∧ τ1 36 k ≤ 1000000000 := mr.2.1
      refine g_cVI (st := []) (c_Mo_playedLocal (b := 34) (k := k) hn mo_34 k12 mr.1) k_Mo_playedLocal l_Sr_44 (by decide +kernel) (by omega) rfl rfl rfl rfl (Nat.le_of_ble_eq_true rfl) (by decide) ⟨by decide, by decide⟩ ?_
      rintro a σ1 ⟨ea, hσ⟩
      obtain rfl := hσ.symm
      have ea : a = (zplay (zSv σ 1) k) t := by rw [ea]; exact ep
      subst ea
      have h7 : -1 ≤ (zplay (zSv σ 1) k) t ∧ (zplay (zSv σ 1) k) t ≤ 1000000000 := by
        rw [← ep]
        split
        · exact m2
        · exact ⟨by decide, by decide⟩
      refine g_istore (i := 7) (L' := [(0, _), (1, _), (2, _), (3, _), (4, _), (5, _), (6, _), (7, _)]) (by decide +kernel) rfl rfl ?_
      refine g_iload (i := 7) (by decide +kernel) rfl ?_
      refine g_iconst (a := -1) (by decide +kernel) ?_
      refine g_icmp_eq (off := 29) (tgt := 64) (by decide +kernel) (by decide) ⟨by omega, by omega⟩ ⟨by omega, by omega⟩ (fun h35 => ?_) (fun h35 => ?_)
      · have hgo : zgo (zplay (zSv σ 1) k) ev t (τ 93) = false := decide_eq_false (fun q => q.1 h35)
        have hU : zFr σ τ1 ∧ τ1 93 = τ 93 := F1
        refine g_iconst (a := 0) (by decide +kernel) ?_
        refine g_istore (i := 8) (L' := [(0, _), (1, _), (2, _), (3, _), (4, _), (5, _), (6, _), (7, _), (8, _)]) (by decide +kernel) rfl rfl ?_
        refine g_iload (i := 8) (by decide +kernel) rfl ?_
        refine g_if_eq (off := 12) (tgt := 81) (by decide +kernel) (by decide) ⟨by omega, by omega⟩ (fun h69 => ?_) (fun h69 => ?_)
        · first
            | exact J81 _ (by omega) h7 hU.1 hU.2 hgo
            | exact absurd h69 (by decide)
        · first
            | exact absurd rfl h69
            | (have hz : ev = 0 := h45
               exact J72 _ (by omega) h7 F1.1 (by rw [F1.2]; exact hR) hgo (by rw [if_neg (fun q => q.1 hz)]; exact F1.2))
            | (refine J72 _ (by omega) h7 ?_ ?_ hgo ?_
               · split
                 · exact F1.1.put
                 · exact F1.1
               · split
                 · rw [zs_row]; exact R1.put cr
                 · exact R1
               · rw [F1.2]
                 by_cases z : τ 93 2 = τ 93 3
                 · rw [if_pos z, if_pos ⟨by omega, z⟩, zs_row, F1.2, e5]
                 · rw [if_neg z, if_neg (fun q => z q.2), F1.2])
      · refine g_iload (i := 5) (by decide +kernel) rfl ?_
        refine g_iconst (a := -1) (by decide +kernel) ?_
        refine g_icmp_eq (off := 23) (tgt := 64) (by decide +kernel) (by decide) ⟨by omega, by omega⟩ ⟨by omega, by omega⟩ (fun h41 => ?_) (fun h41 => ?_)
        · have hgo : zgo (zplay (zSv σ 1) k) ev t (τ 93) = false := decide_eq_false (fun q => q.2.1 (by rw [← e5]; exact h41))
          have hU : zFr σ τ1 ∧ τ1 93 = τ 93 := F1
          refine g_iconst (a := 0) (by decide +kernel) ?_
          refine g_istore (i := 8) (L' := [(0, _), (1, _), (2, _), (3, _), (4, _), (5, _), (6, _), (7, _), (8, _)]) (by decide +kernel) rfl rfl ?_
          refine g_iload (i := 8) (by decide +kernel) rfl ?_
          refine g_if_eq (off := 12) (tgt := 81) (by decide +kernel) (by decide) ⟨by omega, by omega⟩ (fun h69 => ?_) (fun h69 => ?_)
          · first
              | exact J81 _ (by omega) h7 hU.1 hU.2 hgo
              | exact absurd h69 (by decide)
          · first
              | exact absurd rfl h69
              | (have hz : ev = 0 := h45
                 exact J72 _ (by omega) h7 F1.1 (by rw [F1.2]; exact hR) hgo (by rw [if_neg (fun q => q.1 hz)]; exact F1.2))
              | (refine J72 _ (by omega) h7 ?_ ?_ hgo ?_
                 · split
                   · exact F1.1.put
                   · exact F1.1
                 · split
                   · rw [zs_row]; exact R1.put cr
                   · exact R1
                 · rw [F1.2]
                   by_cases z : τ 93 2 = τ 93 3
                   · rw [if_pos z, if_pos ⟨by omega, z⟩, zs_row, F1.2, e5]
                   · rw [if_neg z, if_neg (fun q => z q.2), F1.2])
        · refine g_iload_n (i := 3) (by decide +kernel) rfl ?_
          refine g_if_eq (off := 15) (tgt := 60) (by decide +kernel) (by decide) ⟨by omega, by omega⟩ (fun h45 => ?_) (fun h45 => ?_)
          · have hgo : zgo (zplay (zSv σ 1) k) ev t (τ 93) = true := decide_eq_true ⟨h35, by rw [← e5]; exact h41, Or.inl h45⟩
            refine g_iconst (a := 1) (by decide +kernel) ?_
            refine g_goto (off := 4) (tgt := 65) (by decide +kernel) (by decide) ?_
            refine g_istore (i := 8) (L' := [(0, _), (1, _), (2, _), (3, _), (4, _), (5, _), (6, _), (7, _), (8, _)]) (by decide +kernel) rfl rfl ?_
            refine g_iload (i := 8) (by decide +kernel) rfl ?_
            refine g_if_eq (off := 12) (tgt := 81) (by decide +kernel) (by decide) ⟨by omega, by omega⟩ (fun h69 => ?_) (fun h69 => ?_)
            · first
                | exact J81 _ (by omega) h7 hU.1 hU.2 hgo
                | exact absurd h69 (by decide)
            · first
                | exact absurd rfl h69
                | (have hz : ev = 0 := h45
                   exact J72 _ (by omega) h7 F1.1 (by rw [F1.2]; exact hR) hgo (by rw [if_neg (fun q => q.1 hz)]; exact F1.2))
                | (refine J72 _ (by omega) h7 ?_ ?_ hgo ?_
                   · split
                     · exact F1.1.put
                     · exact F1.1
                   · split
                     · rw [zs_row]; exact R1.put cr
                     · exact R1
                   · rw [F1.2]
                     by_cases z : τ 93 2 = τ 93 3
                     · rw [if_pos z, if_pos ⟨by omega, z⟩, zs_row, F1.2, e5]
                     · rw [if_neg z, if_neg (fun q => z q.2), F1.2])
          · have hev1 : ev = 1 := by omega
            have cr : zr ((zplay (zSv σ 1) k) t - x5) := ⟨by omega, by omega⟩
            have R1 : zRs (τ1 93) := by rw [F1.2]; exact hR
            refine g_aload_n (i := 0) (by decide +kernel) rfl ?_
            refine g_iload (i := 7) (by decide +kernel) rfl ?_
            refine g_iload (i := 5) (by decide +kernel) rfl ?_
            refine g_isub (by decide +kernel) ?_
            refine g_cVI (st := []) (c_Sr_keepsStep hn cr R1) k_Sr_keepsStep l_Sr_52 (by decide +kernel) (by omega) rfl rfl rfl rfl (Nat.le_of_ble_eq_true rfl) (by decide) ⟨by decide, by decide⟩ ?_
            rintro a σ1 ⟨ea, hσ⟩
            obtain rfl := hσ.symm
            subst ea
            refine g_if_eq (off := 7) (tgt := 64) (by decide +kernel) (by decide) zbr (fun h57 => ?_) (fun h57 => ?_)
            · have h57 := zb0.mp h57
              have hgo : zgo (zplay (zSv σ 1) k) ev t (τ 93) = false := decide_eq_false (fun q => by
                have q3 := q.2.2
                rw [← e5] at q3
                rw [F1.2] at h57
                rcases q3 with q3 | q3
                · omega
                · exact h57 q3)
              rw [if_neg (fun q => h57 (Or.inl q))]
              have hU : zFr σ τ1 ∧ τ1 93 = τ 93 := F1
              refine g_iconst (a := 0) (by decide +kernel) ?_
              refine g_istore (i := 8) (L' := [(0, _), (1, _), (2, _), (3, _), (4, _), (5, _), (6, _), (7, _), (8, _)]) (by decide +kernel) rfl rfl ?_
              refine g_iload (i := 8) (by decide +kernel) rfl ?_
              refine g_if_eq (off := 12) (tgt := 81) (by decide +kernel) (by decide) ⟨by omega, by omega⟩ (fun h69 => ?_) (fun h69 => ?_)
              · first
                  | exact J81 _ (by omega) h7 hU.1 hU.2 hgo
                  | exact absurd h69 (by decide)
              · first
                  | exact absurd rfl h69
                  | (have hz : ev = 0 := h45
                     exact J72 _ (by omega) h7 F1.1 (by rw [F1.2]; exact hR) hgo (by rw [if_neg (fun q => q.1 hz)]; exact F1.2))
                  | (refine J72 _ (by omega) h7 ?_ ?_ hgo ?_
                     · split
                       · exact F1.1.put
                       · exact F1.1
                     · split
                       · rw [zs_row]; exact R1.put cr
                       · exact R1
                     · rw [F1.2]
                       by_cases z : τ 93 2 = τ 93 3
                       · rw [if_pos z, if_pos ⟨by omega, z⟩, zs_row, F1.2, e5]
                       · rw [if_neg z, if_neg (fun q => z q.2), F1.2])
            · have h57 := zb1.mp h57
              rw [F1.2] at h57
              have hgo : zgo (zplay (zSv σ 1) k) ev t (τ 93) = true := decide_eq_true ⟨h35, by rw [← e5]; exact h41, Or.inr (by rw [← e5]; exact h57)⟩
              refine g_iconst (a := 1) (by decide +kernel) ?_
              refine g_goto (off := 4) (tgt := 65) (by decide +kernel) (by decide) ?_
              refine g_istore (i := 8) (L' := [(0, _), (1, _), (2, _), (3, _), (4, _), (5, _), (6, _), (7, _), (8, _)]) (by decide +kernel) rfl rfl ?_
              refine g_iload (i := 8) (by decide +kernel) rfl ?_
              refine g_if_eq (off := 12) (tgt := 81) (by decide +kernel) (by decide) ⟨by omega, by omega⟩ (fun h69 => ?_) (fun h69 => ?_)
              · first
                  | exact J81 _ (by omega) h7 hU.1 hU.2 hgo
                  | exact absurd h69 (by decide)
              · first
                  | exact absurd rfl h69
                  | (have hz : ev = 0 := h45
                     exact J72 _ (by omega) h7 F1.1 (by rw [F1.2]; exact hR) hgo (by rw [if_neg (fun q => q.1 hz)]; exact F1.2))
                  | (refine J72 _ (by omega) h7 ?_ ?_ hgo ?_
                     · split
                       · exact F1.1.put
                       · exact F1.1
                     · split
                       · rw [zs_row]; exact R1.put cr
                       · exact R1
                     · rw [F1.2]
                       by_cases z : τ 93 2 = τ 93 3
                       · rw [if_pos z, if_pos ⟨by omega, z⟩, zs_row, F1.2, e5]
                       · rw [if_neg z, if_neg (fun q => z q.2), F1.2])
