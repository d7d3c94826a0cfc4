/-! READING: the class's loop -/
theorem t_Rd_read {G : zG} {X : zX} {n : Nat} {σ0 : zSt} {b : Nat → Int} {n0 : Nat} {A0 : zAb} (hn : 189 ≤ n) (hb : zBt b) (hn0 : n0 ≤ 600) (hO : ∀ k, k < 12 → σ0 32 k = 0 ∨ σ0 32 k = 1) {υ : zSt} {f : Int × Nat} {i : Int} (hi : zr i) (hB : zBeg b n0 A0 (.inl f)) (hf : zRo b n0 σ0 (.inl f) 0 υ) : Go G X m_Rd_read (8, 0, 0, 0, 0) n SH υ 48 [(0, vr G 179), (1, vi (n0 : Int)), (2, vi 0), (3, vi i)] [] (zV n SH (fun σ' => ∃ s, zRead b n0 A0 s ∧ zRl σ0 s σ')) := by
  have fin : zV n SH (fun σ' => ∃ s, zRead b n0 A0 s ∧ zRl σ0 s σ') none n SH υ := ⟨⟨rfl, .inl f, ⟨.inl f, hB, rfl⟩, zRl.flt hf hO⟩, rfl, rfl⟩
  refine g_iload_n (i := 3) (by decide +kernel) rfl ?_
  refine g_iload_n (i := 1) (by decide +kernel) rfl ?_
  refine g_icmp_gt (off := 89) (tgt := 139) (by decide +kernel) (by decide) ⟨by omega, by omega⟩ ⟨by omega, by omega⟩ (fun h50 => ?_) (fun h50 => ?_)
  · refine g_iload_n (i := 2) (by decide +kernel) rfl ?_
    refine g_if_eq (off := 7) (tgt := 147) (by decide +kernel) (by decide) ⟨by omega, by omega⟩ (fun h140 => ?_) (fun h140 => ?_)
    · refine g_retV (by decide +kernel) rfl ⟨by decide, by decide⟩ ?_
      first | exact ⟨.inl f, ⟨.inl f, hB, rfl⟩, zRl.flt hf hO⟩ | exact absurd rfl (by assumption)
    · exact absurd rfl h140
  · refine g_iload_n (i := 2) (by decide +kernel) rfl ?_
    refine g_if_eq (off := 85) (tgt := 139) (by decide +kernel) (by decide) ⟨by omega, by omega⟩ (fun h54 => ?_) (fun h54 => ?_)
    · refine g_iload_n (i := 2) (by decide +kernel) rfl ?_
      refine g_if_eq (off := 7) (tgt := 147) (by decide +kernel) (by decide) ⟨by omega, by omega⟩ (fun h140 => ?_) (fun h140 => ?_)
      · refine g_retV (by decide +kernel) rfl ⟨by decide, by decide⟩ ?_
        first | exact ⟨.inl f, ⟨.inl f, hB, rfl⟩, zRl.flt hf hO⟩ | exact absurd rfl (by assumption)
      · exact absurd rfl h140
    · exact absurd rfl h54
theorem w_Rd_read {G : zG} {X : zX} {n : Nat} {σ0 : zSt} {b : Nat → Int} {n0 : Nat} {A0 : zAb} (hn : 189 ≤ n) (hb : zBt b) (hn0 : n0 ≤ 600) (hO : ∀ k, k < 12 → σ0 32 k = 0 ∨ σ0 32 k = 1)  : ∀ (m : Nat) (i : Nat) (A : zAb) (x3 : Int) (τ : zSt), x3 = (i : Int) → zRc b n0 σ0 A τ → zAi n0 A → zAv A → i < A.q → (∀ r, zRuns b n0 A r → zBeg b n0 A0 r) → A.q ≤ n0 → n0 < A.q + m → Go G X m_Rd_read (8, 0, 0, 0, 0) n SH τ 48 [(0, vr G 179), (1, vi (n0 : Int)), (2, vi 1), (3, vi x3)] [] (zV n SH (fun σ' => ∃ s, zRead b n0 A0 s ∧ zRl σ0 s σ')) := by
  intro m
  induction m with
  | zero => intro i A x3 τ e3 hR hA hv hiq hbeg hqn hm; exact absurd hm (by omega)
  | succ m ih =>
    intro i A x3 τ e3 hR hA hv hiq hbeg hqn hm
    subst e3
    obtain ⟨⟨a1, a2⟩, ⟨a3, a3b, a3c, a3d⟩, ⟨a4, a5, a6, a7, a8⟩, ⟨a9, a10⟩, a11, a12⟩ := id hR
    have tr := @zTt_r b n0 A.q
    have ob := hA.2.2.1
    have mb := hA.2.2.2.1
    have hq := hA.1
    have hD12 : A.D 0 0 ≤ 12 := hA.2.1.1.2.1
    have NEXT : ∀ {r : (Int × Nat) ⊕ zAb} {a : Int} {υ : zSt}, ¬ zSt0 A → zstep b n0 A = r → zRo b n0 σ0 r a υ → Go G X m_Rd_read (8, 0, 0, 0, 0) n SH υ 48 [(0, vr G 179), (1, vi (n0 : Int)), (2, vi a), (3, vi ((i : Int) + 1))] [] (zV n SH (fun σ' => ∃ s, zRead b n0 A0 s ∧ zRl σ0 s σ')) := by
      intro r a υ hns es hr
      cases r with
      | inl f =>
        obtain rfl : a = 0 := hr.1
        exact t_Rd_read hn hb hn0 hO ⟨by omega, by omega⟩ (hbeg _ ⟨0, A, rfl, Or.inl ⟨hns, f, es, rfl⟩⟩) hr
      | inr C =>
        obtain rfl : a = 1 := hr.1
        have hlt := zstep_q hq es
        obtain ⟨i1, i2⟩ := zstep_inv hA hv hns es
        have cq := i1.1
        exact ih (i + 1) C _ υ (by push_cast; rfl) hr.2.1 i1 i2 (by omega) (fun r hr2 => hbeg r (zRuns_one hns es hr2)) cq (by omega)
    refine g_iload_n (i := 3) (by decide +kernel) rfl ?_
    refine g_iload_n (i := 1) (by decide +kernel) rfl ?_
    refine g_icmp_gt (off := 89) (tgt := 139) (by decide +kernel) (by decide) ⟨by omega, by omega⟩ ⟨by omega, by omega⟩ (fun h50 => ?_) (fun h50 => ?_)
    · refine g_iload_n (i := 2) (by decide +kernel) rfl ?_
      refine g_if_eq (off := 7) (tgt := 147) (by decide +kernel) (by decide) ⟨by omega, by omega⟩ (fun h140 => ?_) (fun h140 => ?_)
      · refine g_retV (by decide +kernel) rfl ⟨by decide, by decide⟩ ?_
        first
          | exact ⟨zfe b n0 A, ⟨.inr A, hbeg _ ⟨0, A, rfl, Or.inr ⟨hst, rfl⟩⟩, rfl⟩, hres⟩
          | (exfalso; omega)
      · refine g_aload_n (i := 0) (by decide +kernel) rfl ?_
        have hst : zSt0 A := by first | exact ⟨by omega, by omega⟩ | (exfalso; omega)
        refine g_cVV (st := _) (c_Rd_readEnd hn hb hn0 hR hA hv hst hO) k_Rd_readEnd l_Rd_78 (by decide +kernel) (by omega) rfl rfl rfl rfl (Nat.le_of_ble_eq_true rfl) (by decide) ⟨by decide, by decide⟩ ?_
        rintro σ8 hres
        refine g_retV (by decide +kernel) rfl ⟨by decide, by decide⟩ ?_
        first
          | exact ⟨zfe b n0 A, ⟨.inr A, hbeg _ ⟨0, A, rfl, Or.inr ⟨hst, rfl⟩⟩, rfl⟩, hres⟩
          | (exfalso; omega)
    · refine g_iload_n (i := 2) (by decide +kernel) rfl ?_
      refine g_if_eq (off := 85) (tgt := 139) (by decide +kernel) (by decide) ⟨by omega, by omega⟩ (fun h54 => ?_) (fun h54 => ?_)
      · refine g_iload_n (i := 2) (by decide +kernel) rfl ?_
        refine g_if_eq (off := 7) (tgt := 147) (by decide +kernel) (by decide) ⟨by omega, by omega⟩ (fun h140 => ?_) (fun h140 => ?_)
        · refine g_retV (by decide +kernel) rfl ⟨by decide, by decide⟩ ?_
          first
            | exact ⟨zfe b n0 A, ⟨.inr A, hbeg _ ⟨0, A, rfl, Or.inr ⟨hst, rfl⟩⟩, rfl⟩, hres⟩
            | (exfalso; omega)
        · refine g_aload_n (i := 0) (by decide +kernel) rfl ?_
          have hst : zSt0 A := by first | exact ⟨by omega, by omega⟩ | (exfalso; omega)
          refine g_cVV (st := _) (c_Rd_readEnd hn hb hn0 hR hA hv hst hO) k_Rd_readEnd l_Rd_78 (by decide +kernel) (by omega) rfl rfl rfl rfl (Nat.le_of_ble_eq_true rfl) (by decide) ⟨by decide, by decide⟩ ?_
          rintro σ8 hres
          refine g_retV (by decide +kernel) rfl ⟨by decide, by decide⟩ ?_
          first
            | exact ⟨zfe b n0 A, ⟨.inr A, hbeg _ ⟨0, A, rfl, Or.inr ⟨hst, rfl⟩⟩, rfl⟩, hres⟩
            | (exfalso; omega)
      · refine g_aload_n (i := 0) (by decide +kernel) rfl ?_
        refine g_geti f_Rd_40 (by decide +kernel) (by omega) rfl rfl ?_
        refine g_iconst (a := -1) (by decide +kernel) ?_
        refine g_icmp_ne (off := 11) (tgt := 73) (by decide +kernel) (by decide) ⟨by omega, by omega⟩ ⟨by omega, by omega⟩ (fun h62 => ?_) (fun h62 => ?_)
        · have hns : ¬ zSt0 A := fun y => by have := y.1; omega
          refine g_aload_n (i := 0) (by decide +kernel) rfl ?_
          refine g_geti f_Rd_40 (by decide +kernel) (by omega) rfl rfl ?_
          refine g_iconst (a := -1) (by decide +kernel) ?_
          refine g_icmp_eq (off := 34) (tgt := 112) (by decide +kernel) (by decide) ⟨by omega, by omega⟩ ⟨by omega, by omega⟩ (fun h78 => ?_) (fun h78 => ?_)
          · refine g_aload_n (i := 0) (by decide +kernel) rfl ?_
            refine g_bipush (a := 41) (by decide +kernel) (by decide) ?_
            refine g_cVI (st := _) (c_Rd_isSign hn ⟨by omega, by omega⟩ (by omega) (fun y => by have y1 := zTs_s (b := b) (n0 := n0) (q := A.q) (by omega); have y2 := zTt_s (b := b) (n0 := n0) (q := A.q) (by omega); rw [a3d, y1.2]; exact ⟨by omega, by omega⟩)) k_Rd_isSign l_Rd_71 (by decide +kernel) (by omega) rfl rfl rfl rfl (Nat.le_of_ble_eq_true rfl) (by decide) ⟨by decide, by decide⟩ ?_
            rintro a9_ σ9 ⟨ea9, hσ9⟩
            obtain rfl := hσ9.symm
            rw [a3b, a3d] at ea9
            have ea : a9_ = 0 ∨ a9_ = 1 := by rw [ea9]; split <;> omega
            refine g_if_eq (off := 10) (tgt := 128) (by decide +kernel) (by decide) ⟨by omega, by omega⟩ (fun h118 => ?_) (fun h118 => ?_)
            · refine g_aload_n (i := 0) (by decide +kernel) rfl ?_
              refine g_cVI (st := _) (c_Rd_readClip hn hb hn0 hR hA (by omega)) k_Rd_readClip l_Rd_57 (by decide +kernel) (by omega) rfl rfl rfl rfl (Nat.le_of_ble_eq_true rfl) (by decide) ⟨by decide, by decide⟩ ?_
              rintro a8_ σ8 hres
              have ea8 := hres.b
              refine g_istore_n (i := 2) (L' := [(0, _), (1, _), (2, _), (3, _)]) (by decide +kernel) rfl rfl ?_
              refine g_iinc (i := 3) (b := 1) (L' := [(0, _), (1, _), (2, _), (3, _)]) (by decide +kernel) rfl rfl rfl ?_
              refine g_goto (off := -88) (tgt := 48) (by decide +kernel) (by decide) ?_
              refine g_less [0, 1, 2, 3] rfl ?_
              first
                | (have es : zstep b n0 A = zpK b n0 A k := by unfold zstep; rw [if_pos (by omega), if_pos (by omega), ek2]
                   exact NEXT hns es hres)
                | (have es : zstep b n0 A = zpS b n0 A k := by unfold zstep; rw [if_pos (by omega), if_neg (by omega), ek2]
                   exact NEXT hns es hres)
                | (have es : zstep b n0 A = zpX b n0 A := by
                     rw [ea9] at h118
                     have h119 := zit1 h118
                     unfold zstep; rw [if_neg (by omega), if_pos h119]
                   exact NEXT hns es hres)
                | (have es : zstep b n0 A = zpC b n0 A := by
                     rw [ea9] at h118
                     have h119 := zit0 h118
                     unfold zstep; rw [if_neg (by omega), if_neg h119]
                   exact NEXT hns es hres)
            · refine g_aload_n (i := 0) (by decide +kernel) rfl ?_
              obtain ⟨o, eo⟩ := Int.eq_ofNat_of_zero_le (show 0 ≤ A.op by first | omega | (exfalso; omega))
              refine g_cVI (st := _) (c_Rd_closeClip hn hb hn0 hR hA eo hv.par) k_Rd_closeClip l_Rd_75 (by decide +kernel) (by omega) rfl rfl rfl rfl (Nat.le_of_ble_eq_true rfl) (by decide) ⟨by decide, by decide⟩ ?_
              rintro a8_ σ8 hres
              have ea8 := hres.b
              refine g_goto (off := 7) (tgt := 132) (by decide +kernel) (by decide) ?_
              refine g_istore_n (i := 2) (L' := [(0, _), (1, _), (2, _), (3, _)]) (by decide +kernel) rfl rfl ?_
              refine g_iinc (i := 3) (b := 1) (L' := [(0, _), (1, _), (2, _), (3, _)]) (by decide +kernel) rfl rfl rfl ?_
              refine g_goto (off := -88) (tgt := 48) (by decide +kernel) (by decide) ?_
              refine g_less [0, 1, 2, 3] rfl ?_
              first
                | (have es : zstep b n0 A = zpK b n0 A k := by unfold zstep; rw [if_pos (by omega), if_pos (by omega), ek2]
                   exact NEXT hns es hres)
                | (have es : zstep b n0 A = zpS b n0 A k := by unfold zstep; rw [if_pos (by omega), if_neg (by omega), ek2]
                   exact NEXT hns es hres)
                | (have es : zstep b n0 A = zpX b n0 A := by
                     rw [ea9] at h118
                     have h119 := zit1 h118
                     unfold zstep; rw [if_neg (by omega), if_pos h119]
                   exact NEXT hns es hres)
                | (have es : zstep b n0 A = zpC b n0 A := by
                     rw [ea9] at h118
                     have h119 := zit0 h118
                     unfold zstep; rw [if_neg (by omega), if_neg h119]
                   exact NEXT hns es hres)
          · obtain ⟨k, ek⟩ := Int.eq_ofNat_of_zero_le (show 0 ≤ A.mk by omega)
            have ek2 : A.mk.toNat = k := by omega
            refine g_aload_n (i := 0) (by decide +kernel) rfl ?_
            refine g_geti f_Rd_61 (by decide +kernel) (by omega) rfl rfl ?_
            refine g_iconst (a := 2) (by decide +kernel) ?_
            refine g_icmp_ne (off := 14) (tgt := 100) (by decide +kernel) (by decide) ⟨by omega, by omega⟩ ⟨by omega, by omega⟩ (fun h86 => ?_) (fun h86 => ?_)
            · refine g_aload_n (i := 0) (by decide +kernel) rfl ?_
              refine g_aload_n (i := 0) (by decide +kernel) rfl ?_
              refine g_geti f_Rd_40 (by decide +kernel) (by omega) rfl rfl ?_
              rw [a5, ek]
              refine g_cVI (st := _) (c_Rd_readSign hn hb hn0 hR hA ek) k_Rd_readSign l_Rd_68 (by decide +kernel) (by omega) rfl rfl rfl rfl (Nat.le_of_ble_eq_true rfl) (by decide) ⟨by decide, by decide⟩ ?_
              rintro a8_ σ8 hres
              have ea8 := hres.b
              refine g_istore_n (i := 2) (L' := [(0, _), (1, _), (2, _), (3, _)]) (by decide +kernel) rfl rfl ?_
              refine g_goto (off := 24) (tgt := 133) (by decide +kernel) (by decide) ?_
              refine g_iinc (i := 3) (b := 1) (L' := [(0, _), (1, _), (2, _), (3, _)]) (by decide +kernel) rfl rfl rfl ?_
              refine g_goto (off := -88) (tgt := 48) (by decide +kernel) (by decide) ?_
              refine g_less [0, 1, 2, 3] rfl ?_
              first
                | (have es : zstep b n0 A = zpK b n0 A k := by unfold zstep; rw [if_pos (by omega), if_pos (by omega), ek2]
                   exact NEXT hns es hres)
                | (have es : zstep b n0 A = zpS b n0 A k := by unfold zstep; rw [if_pos (by omega), if_neg (by omega), ek2]
                   exact NEXT hns es hres)
                | (have es : zstep b n0 A = zpX b n0 A := by
                     rw [ea9] at h118
                     have h119 := zit1 h118
                     unfold zstep; rw [if_neg (by omega), if_pos h119]
                   exact NEXT hns es hres)
                | (have es : zstep b n0 A = zpC b n0 A := by
                     rw [ea9] at h118
                     have h119 := zit0 h118
                     unfold zstep; rw [if_neg (by omega), if_neg h119]
                   exact NEXT hns es hres)
            · refine g_aload_n (i := 0) (by decide +kernel) rfl ?_
              refine g_aload_n (i := 0) (by decide +kernel) rfl ?_
              refine g_geti f_Rd_40 (by decide +kernel) (by omega) rfl rfl ?_
              rw [a5, ek]
              refine g_cVI (st := _) (c_Rd_readMark hn hb hn0 hR hA ek) k_Rd_readMark l_Rd_64 (by decide +kernel) (by omega) rfl rfl rfl rfl (Nat.le_of_ble_eq_true rfl) (by decide) ⟨by decide, by decide⟩ ?_
              rintro a8_ σ8 hres
              have ea8 := hres.b
              refine g_goto (off := 11) (tgt := 108) (by decide +kernel) (by decide) ?_
              refine g_istore_n (i := 2) (L' := [(0, _), (1, _), (2, _), (3, _)]) (by decide +kernel) rfl rfl ?_
              refine g_goto (off := 24) (tgt := 133) (by decide +kernel) (by decide) ?_
              refine g_iinc (i := 3) (b := 1) (L' := [(0, _), (1, _), (2, _), (3, _)]) (by decide +kernel) rfl rfl rfl ?_
              refine g_goto (off := -88) (tgt := 48) (by decide +kernel) (by decide) ?_
              refine g_less [0, 1, 2, 3] rfl ?_
              first
                | (have es : zstep b n0 A = zpK b n0 A k := by unfold zstep; rw [if_pos (by omega), if_pos (by omega), ek2]
                   exact NEXT hns es hres)
                | (have es : zstep b n0 A = zpS b n0 A k := by unfold zstep; rw [if_pos (by omega), if_neg (by omega), ek2]
                   exact NEXT hns es hres)
                | (have es : zstep b n0 A = zpX b n0 A := by
                     rw [ea9] at h118
                     have h119 := zit1 h118
                     unfold zstep; rw [if_neg (by omega), if_pos h119]
                   exact NEXT hns es hres)
                | (have es : zstep b n0 A = zpC b n0 A := by
                     rw [ea9] at h118
                     have h119 := zit0 h118
                     unfold zstep; rw [if_neg (by omega), if_neg h119]
                   exact NEXT hns es hres)
        · refine g_aload_n (i := 0) (by decide +kernel) rfl ?_
          refine g_geti f_Rd_37 (by decide +kernel) (by omega) rfl rfl ?_
          refine g_iconst (a := -1) (by decide +kernel) ?_
          refine g_icmp_eq (off := 69) (tgt := 139) (by decide +kernel) (by decide) ⟨by omega, by omega⟩ ⟨by omega, by omega⟩ (fun h70 => ?_) (fun h70 => ?_)
          · refine g_iload_n (i := 2) (by decide +kernel) rfl ?_
            refine g_if_eq (off := 7) (tgt := 147) (by decide +kernel) (by decide) ⟨by omega, by omega⟩ (fun h140 => ?_) (fun h140 => ?_)
            · refine g_retV (by decide +kernel) rfl ⟨by decide, by decide⟩ ?_
              first
                | exact ⟨zfe b n0 A, ⟨.inr A, hbeg _ ⟨0, A, rfl, Or.inr ⟨hst, rfl⟩⟩, rfl⟩, hres⟩
                | (exfalso; omega)
            · refine g_aload_n (i := 0) (by decide +kernel) rfl ?_
              have hst : zSt0 A := by first | exact ⟨by omega, by omega⟩ | (exfalso; omega)
              refine g_cVV (st := _) (c_Rd_readEnd hn hb hn0 hR hA hv hst hO) k_Rd_readEnd l_Rd_78 (by decide +kernel) (by omega) rfl rfl rfl rfl (Nat.le_of_ble_eq_true rfl) (by decide) ⟨by decide, by decide⟩ ?_
              rintro σ8 hres
              refine g_retV (by decide +kernel) rfl ⟨by decide, by decide⟩ ?_
              first
                | exact ⟨zfe b n0 A, ⟨.inr A, hbeg _ ⟨0, A, rfl, Or.inr ⟨hst, rfl⟩⟩, rfl⟩, hres⟩
                | (exfalso; omega)
          · have hns : ¬ zSt0 A := fun y => by have := y.2; omega
            refine g_aload_n (i := 0) (by decide +kernel) rfl ?_
            refine g_geti f_Rd_40 (by decide +kernel) (by omega) rfl rfl ?_
            refine g_iconst (a := -1) (by decide +kernel) ?_
            refine g_icmp_eq (off := 34) (tgt := 112) (by decide +kernel) (by decide) ⟨by omega, by omega⟩ ⟨by omega, by omega⟩ (fun h78 => ?_) (fun h78 => ?_)
            · refine g_aload_n (i := 0) (by decide +kernel) rfl ?_
              refine g_bipush (a := 41) (by decide +kernel) (by decide) ?_
              refine g_cVI (st := _) (c_Rd_isSign hn ⟨by omega, by omega⟩ (by omega) (fun y => by have y1 := zTs_s (b := b) (n0 := n0) (q := A.q) (by omega); have y2 := zTt_s (b := b) (n0 := n0) (q := A.q) (by omega); rw [a3d, y1.2]; exact ⟨by omega, by omega⟩)) k_Rd_isSign l_Rd_71 (by decide +kernel) (by omega) rfl rfl rfl rfl (Nat.le_of_ble_eq_true rfl) (by decide) ⟨by decide, by decide⟩ ?_
              rintro a9_ σ9 ⟨ea9, hσ9⟩
              obtain rfl := hσ9.symm
              rw [a3b, a3d] at ea9
              have ea : a9_ = 0 ∨ a9_ = 1 := by rw [ea9]; split <;> omega
              refine g_if_eq (off := 10) (tgt := 128) (by decide +kernel) (by decide) ⟨by omega, by omega⟩ (fun h118 => ?_) (fun h118 => ?_)
              · refine g_aload_n (i := 0) (by decide +kernel) rfl ?_
                refine g_cVI (st := _) (c_Rd_readClip hn hb hn0 hR hA (by omega)) k_Rd_readClip l_Rd_57 (by decide +kernel) (by omega) rfl rfl rfl rfl (Nat.le_of_ble_eq_true rfl) (by decide) ⟨by decide, by decide⟩ ?_
                rintro a8_ σ8 hres
                have ea8 := hres.b
                refine g_istore_n (i := 2) (L' := [(0, _), (1, _), (2, _), (3, _)]) (by decide +kernel) rfl rfl ?_
                refine g_iinc (i := 3) (b := 1) (L' := [(0, _), (1, _), (2, _), (3, _)]) (by decide +kernel) rfl rfl rfl ?_
                refine g_goto (off := -88) (tgt := 48) (by decide +kernel) (by decide) ?_
                refine g_less [0, 1, 2, 3] rfl ?_
                first
                  | (have es : zstep b n0 A = zpK b n0 A k := by unfold zstep; rw [if_pos (by omega), if_pos (by omega), ek2]
                     exact NEXT hns es hres)
                  | (have es : zstep b n0 A = zpS b n0 A k := by unfold zstep; rw [if_pos (by omega), if_neg (by omega), ek2]
                     exact NEXT hns es hres)
                  | (have es : zstep b n0 A = zpX b n0 A := by
                       rw [ea9] at h118
                       have h119 := zit1 h118
                       unfold zstep; rw [if_neg (by omega), if_pos h119]
                     exact NEXT hns es hres)
                  | (have es : zstep b n0 A = zpC b n0 A := by
                       rw [ea9] at h118
                       have h119 := zit0 h118
                       unfold zstep; rw [if_neg (by omega), if_neg h119]
                     exact NEXT hns es hres)
              · refine g_aload_n (i := 0) (by decide +kernel) rfl ?_
                obtain ⟨o, eo⟩ := Int.eq_ofNat_of_zero_le (show 0 ≤ A.op by first | omega | (exfalso; omega))
                refine g_cVI (st := _) (c_Rd_closeClip hn hb hn0 hR hA eo hv.par) k_Rd_closeClip l_Rd_75 (by decide +kernel) (by omega) rfl rfl rfl rfl (Nat.le_of_ble_eq_true rfl) (by decide) ⟨by decide, by decide⟩ ?_
                rintro a8_ σ8 hres
                have ea8 := hres.b
                refine g_goto (off := 7) (tgt := 132) (by decide +kernel) (by decide) ?_
                refine g_istore_n (i := 2) (L' := [(0, _), (1, _), (2, _), (3, _)]) (by decide +kernel) rfl rfl ?_
                refine g_iinc (i := 3) (b := 1) (L' := [(0, _), (1, _), (2, _), (3, _)]) (by decide +kernel) rfl rfl rfl ?_
                refine g_goto (off := -88) (tgt := 48) (by decide +kernel) (by decide) ?_
                refine g_less [0, 1, 2, 3] rfl ?_
                first
                  | (have es : zstep b n0 A = zpK b n0 A k := by unfold zstep; rw [if_pos (by omega), if_pos (by omega), ek2]
                     exact NEXT hns es hres)
                  | (have es : zstep b n0 A = zpS b n0 A k := by unfold zstep; rw [if_pos (by omega), if_neg (by omega), ek2]
                     exact NEXT hns es hres)
                  | (have es : zstep b n0 A = zpX b n0 A := by
                       rw [ea9] at h118
                       have h119 := zit1 h118
                       unfold zstep; rw [if_neg (by omega), if_pos h119]
                     exact NEXT hns es hres)
                  | (have es : zstep b n0 A = zpC b n0 A := by
                       rw [ea9] at h118
                       have h119 := zit0 h118
                       unfold zstep; rw [if_neg (by omega), if_neg h119]
                     exact NEXT hns es hres)
            · obtain ⟨k, ek⟩ := Int.eq_ofNat_of_zero_le (show 0 ≤ A.mk by omega)
              have ek2 : A.mk.toNat = k := by omega
              refine g_aload_n (i := 0) (by decide +kernel) rfl ?_
              refine g_geti f_Rd_61 (by decide +kernel) (by omega) rfl rfl ?_
              refine g_iconst (a := 2) (by decide +kernel) ?_
              refine g_icmp_ne (off := 14) (tgt := 100) (by decide +kernel) (by decide) ⟨by omega, by omega⟩ ⟨by omega, by omega⟩ (fun h86 => ?_) (fun h86 => ?_)
              · refine g_aload_n (i := 0) (by decide +kernel) rfl ?_
                refine g_aload_n (i := 0) (by decide +kernel) rfl ?_
                refine g_geti f_Rd_40 (by decide +kernel) (by omega) rfl rfl ?_
                rw [a5, ek]
                refine g_cVI (st := _) (c_Rd_readSign hn hb hn0 hR hA ek) k_Rd_readSign l_Rd_68 (by decide +kernel) (by omega) rfl rfl rfl rfl (Nat.le_of_ble_eq_true rfl) (by decide) ⟨by decide, by decide⟩ ?_
                rintro a8_ σ8 hres
                have ea8 := hres.b
                refine g_istore_n (i := 2) (L' := [(0, _), (1, _), (2, _), (3, _)]) (by decide +kernel) rfl rfl ?_
                refine g_goto (off := 24) (tgt := 133) (by decide +kernel) (by decide) ?_
                refine g_iinc (i := 3) (b := 1) (L' := [(0, _), (1, _), (2, _), (3, _)]) (by decide +kernel) rfl rfl rfl ?_
                refine g_goto (off := -88) (tgt := 48) (by decide +kernel) (by decide) ?_
                refine g_less [0, 1, 2, 3] rfl ?_
                first
                  | (have es : zstep b n0 A = zpK b n0 A k := by unfold zstep; rw [if_pos (by omega), if_pos (by omega), ek2]
                     exact NEXT hns es hres)
                  | (have es : zstep b n0 A = zpS b n0 A k := by unfold zstep; rw [if_pos (by omega), if_neg (by omega), ek2]
                     exact NEXT hns es hres)
                  | (have es : zstep b n0 A = zpX b n0 A := by
                       rw [ea9] at h118
                       have h119 := zit1 h118
                       unfold zstep; rw [if_neg (by omega), if_pos h119]
                     exact NEXT hns es hres)
                  | (have es : zstep b n0 A = zpC b n0 A := by
                       rw [ea9] at h118
                       have h119 := zit0 h118
                       unfold zstep; rw [if_neg (by omega), if_neg h119]
                     exact NEXT hns es hres)
              · refine g_aload_n (i := 0) (by decide +kernel) rfl ?_
                refine g_aload_n (i := 0) (by decide +kernel) rfl ?_
                refine g_geti f_Rd_40 (by decide +kernel) (by omega) rfl rfl ?_
                rw [a5, ek]
                refine g_cVI (st := _) (c_Rd_readMark hn hb hn0 hR hA ek) k_Rd_readMark l_Rd_64 (by decide +kernel) (by omega) rfl rfl rfl rfl (Nat.le_of_ble_eq_true rfl) (by decide) ⟨by decide, by decide⟩ ?_
                rintro a8_ σ8 hres
                have ea8 := hres.b
                refine g_goto (off := 11) (tgt := 108) (by decide +kernel) (by decide) ?_
                refine g_istore_n (i := 2) (L' := [(0, _), (1, _), (2, _), (3, _)]) (by decide +kernel) rfl rfl ?_
                refine g_goto (off := 24) (tgt := 133) (by decide +kernel) (by decide) ?_
                refine g_iinc (i := 3) (b := 1) (L' := [(0, _), (1, _), (2, _), (3, _)]) (by decide +kernel) rfl rfl rfl ?_
                refine g_goto (off := -88) (tgt := 48) (by decide +kernel) (by decide) ?_
                refine g_less [0, 1, 2, 3] rfl ?_
                first
                  | (have es : zstep b n0 A = zpK b n0 A k := by unfold zstep; rw [if_pos (by omega), if_pos (by omega), ek2]
                     exact NEXT hns es hres)
                  | (have es : zstep b n0 A = zpS b n0 A k := by unfold zstep; rw [if_pos (by omega), if_neg (by omega), ek2]
                     exact NEXT hns es hres)
                  | (have es : zstep b n0 A = zpX b n0 A := by
                       rw [ea9] at h118
                       have h119 := zit1 h118
                       unfold zstep; rw [if_neg (by omega), if_pos h119]
                     exact NEXT hns es hres)
                  | (have es : zstep b n0 A = zpC b n0 A := by
                       rw [ea9] at h118
                       have h119 := zit0 h118
                       unfold zstep; rw [if_neg (by omega), if_neg h119]
                     exact NEXT hns es hres)
/-- nothing has been read yet: the draft is empty, the token is the first one -/
def zA00 (b : Nat → Int) (n0 : Nat) (σ : zSt) : zAb := zAm (zrn (zqs b) n0 0) (zs (zs (fun r => σ (11 + r)) 0 0 0) 0 8 0) (σ 180) (σ 181) 0 (-1) (-1)
theorem zAv_0 {q td : Nat} {D : zSt} {nm sn : Nat → Int} (h0 : D 0 0 = 0) (h8 : D 0 8 = 0) (hG : zGood D 0) : zAv (zAm q D nm sn td (-1) (-1)) := by
  have hN : zN D = 0 := by unfold zN; rw [h0]; rfl
  have hF : zFin (zneu D) := by
    refine ⟨?_, ⟨⟨fun _ => 0, fun _ => 0, ?_⟩, ?_⟩, fun k hk => ?_⟩
    · have e : zneu D = D := by
        funext r
        by_cases w : r = 4
        · subst w; funext j; exact zneu_n (fun y => by have := y.1; omega)
        · exact zneu_o _ w
      rw [e]; exact hG
    · refine ⟨⟨by rw [zneu_N]; omega, ?_⟩, fun k hk => ?_, fun k hk => ?_, fun k hk => ?_, fun k hk => ?_, fun q p p' _ _ => ?_⟩
      · unfold zDp
        rw [zneu_N, hN]
        first
          | exact ⟨fun k hk => absurd hk (by omega), fun k hk => absurd hk (by omega)⟩
          | exact fun k hk => absurd hk (by omega)
          | simp
      · rw [zneu_N] at hk; omega
      · rw [zneu_N] at hk; omega
      · rw [zneu_N] at hk; omega
      · rw [zneu_N] at hk; omega
      · unfold zch; rw [zneu_N, hN]; rfl
    · rw [zneu_o _ (by decide), h8]
      exact ⟨by decide, fun i hi => absurd hi (by simp)⟩
    · rw [zneu_N] at hk; omega
  refine ⟨hF, fun y => absurd rfl y, fun _ => rfl, fun y => absurd rfl y, fun j hj => ?_, fun i j hi => ?_, fun j hj => ?_⟩
  · have := hj.1
    have hj2 : j < zN D := this
    omega
  · have hi : i < zN D := hi
    omega
  · have hj : j < zN D := hj
    omega
