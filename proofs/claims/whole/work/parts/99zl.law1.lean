/-! THE LAW: its rows, its room, its end -/
def zLw (nm : String) : zM := (code, "NestedClipsLaw", 4, ret, nm)
abbrev zKL : zK := (30, 220, 13332, 600000, 7302250)
theorem hasRoom_mono {s : State} {pl : Platform} {R R' : Room} (h : s.hasRoom pl R = true) (h1 : R'.frames ≤ R.frames) (h2 : R'.cells ≤ R.cells) (h3 : R'.slots ≤ R.slots) (h4 : R'.locals ≤ R.locals) : s.hasRoom pl R' = true := by
  simp only [State.hasRoom, Bool.and_eq_true, decide_eq_true_eq] at h ⊢
  obtain ⟨⟨⟨⟨a1, a2, a3, a4, a5, a6⟩, a7⟩, a8⟩, a9⟩ := h
  exact ⟨⟨⟨⟨by omega, by omega, by omega, by omega, by omega, a6⟩, by omega⟩, by omega⟩, a9⟩
theorem W_room {p : Program} {l : Launch} {e : Env} {R R' : Room} {s : State} {m : MethodId} {args : Array Value} {below : List Frame} {meth : Method} {c : Code} {H : Heap} {locs : List Loc} {cells slots : Nat} {Q Q' : State → Prop} {g : JFrame} (h1 : R'.frames ≤ R.frames) (h2 : R'.cells ≤ R.cells) (h3 : R'.slots ≤ R.slots) (h4 : R'.locals ≤ R.locals) (hQ : ∀ t, Q t → Q' t) (h : W p l e R' s m args below meth c H locs cells slots Q g) : W p l e R s m args below meth c H locs cells slots Q' g := fun T hT X => by
  obtain ⟨t, a, b⟩ := h T hT ⟨X.admits, X.cas, X.clock, X.frames, hasRoom_mono X.room h1 h2 h3 h4, X.hears, X.method, X.code, X.here, X.tail, X.warmed, X.limits, X.bytes, X.same⟩
  exact ⟨t, a, hQ t b⟩
theorem same_new {s t : State} {L : List Loc} {k n : Nat} (h : s.sameButNew t L k n) (hL : ∀ q ∈ L, s.heap.size ≤ q.base) : s.sameButNew t [] k n := by
  obtain ⟨h1, h2, h3, h4, h5, h6⟩ := h
  refine ⟨h1, h2, h3, h4, h5, fun a c hc => ?_⟩
  obtain ⟨c', g1, g2, g3, g4⟩ := h6 a c hc
  refine ⟨c', g1, g2, g3, fun i _ => g4 i (fun hm => ?_)⟩
  have hl := hL _ hm
  have ha : a < s.heap.size := (Array.getElem?_eq_some_iff.mp hc).1
  exact absurd hl (Nat.not_le.mpr ha)
theorem vi_x (x : Int32) : (Value.int x) = vi x.toInt := by
  show Value.int x = Value.int (Int32.ofInt x.toInt)
  rw [Int32.ofInt_toInt]
theorem zr_x (x : Int32) : zr x.toInt := by
  have h1 := Int32.toInt_lt x
  have h2 := Int32.le_toInt x
  exact ⟨by omega, by omega⟩
theorem and63 (x : Int32) : 0 ≤ (x &&& 63).toInt ∧ (x &&& 63).toInt ≤ 63 := by
  have h : (x &&& 63).toBitVec.toNat ≤ 63 := by
    rw [Int32.toBitVec_and, BitVec.toNat_and]
    exact Nat.and_le_right
  have e : (x &&& 63).toInt = ((x &&& 63).toBitVec.toNat : Int) := by
    show (x &&& 63).toBitVec.toInt = _
    exact BitVec.toInt_eq_toNat_of_lt (by omega)
  rw [e]
  omega
section GO
variable {G : zG} {X : zX} {M : zM} {κ : zK} {n : Nat} {sh : Nat → zSh} {σ : zSt} {pc : Nat} {L : List (Nat × Value)} {st : List Value} {post : zPost}
theorem g_sld {b Ln j : Nat} {xs : Nat → Int32} {i : Int} (hX : va_X b Ln xs X.2.2.1 X.2.2.1.heap) (hbl : b < X.2.2.1.heap.size) (hbA : ¬ zA G b) (hd : decode M.1 pc = .ok (.iaload, 1)) (hi : i = (j : Int)) (hj : j < Ln) (hL : Ln ≤ 3072) (kk : Go G X M κ n sh σ (pc + 1) L (vi (xs j).toInt :: st) post) : Go G X M κ n sh σ pc L (vi i :: .ref b :: st) post := fun C H locs ls h1 h2 h3 h4 => by
  refine va_sld C.1 C.2.1 hX hbl hbA h3 (zi_in hi hj (by omega)) hd ?_
  rw [zi_cl hi (by omega), vi_x]
  exact kk C H locs ls h1 h2 h3 h4
theorem g_scl {b Ln : Nat} {xs : Nat → Int32} (hX : va_X b Ln xs X.2.2.1 X.2.2.1.heap) (hbl : b < X.2.2.1.heap.size) (hbA : ¬ zA G b) (hd : decode M.1 pc = .ok (.arraylength, 1)) (kk : Go G X M κ n sh σ (pc + 1) L (vi (Ln : Int) :: st) post) : Go G X M κ n sh σ pc L (.ref b :: st) post := fun C H locs ls h1 h2 h3 h4 => by
  refine va_slen C.1 C.2.1 hX hbl hbA h3 hd ?_
  have k := kk C H locs ls h1 h2 h3 h4
  have e : vi (Ln : Int) = Value.int (Int32.ofNat Ln) := by
    show Value.int (Int32.ofInt (Ln : Int)) = _
    rw [zi_nat]; rfl
  rw [e] at k
  exact k
theorem g_and63 {e : Int} (hd : decode M.1 pc = .ok (.iand, 1)) (kk : ∀ c : Int, 0 ≤ c → c ≤ 63 → Go G X M κ n sh σ (pc + 1) L (vi c :: st) post) : Go G X M κ n sh σ pc L (vi 63 :: vi e :: st) post := fun C H locs ls h1 h2 h3 h4 => by
  refine lv_iand C.1 C.2.1 hd ?_
  have h63 : Int32.ofInt 63 = 63 := by decide
  have a := and63 (Int32.ofInt e)
  have k := kk (Int32.ofInt e &&& 63).toInt a.1 a.2 C H locs ls h1 h2 h3 h4
  rw [← vi_x] at k
  rw [h63]
  exact k
theorem g_same {a a' off : Int} {tgt : Nat} (hd : decode M.1 pc = .ok (.if_icmp .eq off, 3)) (ht : (pc : Int) + off = (tgt : Int)) (e : a = a') (kt : Go G X M κ n sh σ tgt L st post) : Go G X M κ n sh σ pc L (vi a' :: vi a :: st) post := fun C H locs ls h1 h2 h3 h4 => by
  subst e
  exact lv_icmp_eq C.1 C.2.1 hd ht (fun _ => kt C H locs ls h1 h2 h3 h4) (fun h => absurd rfl h)
end GO
/-- a step of the law out of what its two calls leave -/
def zLL (G : zG) (b i : Nat) : List (Nat × Value) := [(0, .ref b), (1, vr G 0), (2, vr G 189), (3, vi (i : Int))]
section STEP
variable {σ τ υ : zSt} {a a' : Int}
theorem zInv.ask2 {w v w' v' : Int} (h : zInv σ) (hq : zRes σ τ a w v) (hm : zRM τ υ a' w' v') (ew : w = w') (ev : w = 0 → v = v') : a = a' ∧ zInv υ := by
  obtain ⟨q1, q2, q3⟩ := hq
  obtain ⟨m1, m2, m3⟩ := hm
  refine ⟨?_, h.ask q1 m1 (by rw [q2, m2, ew])⟩
  rw [q3, m3, ← ew]
  by_cases c : w = 0
  · rw [if_pos c, if_pos c, ev c]
  · rw [if_neg c, if_neg c]
theorem zInv.try2 {w v w' v' : Int} (h : zInv σ) (hq : zAsk σ τ a w v) (hm : zRM τ υ a' w' v') (ew : w = w') (ev : v = v') : a = a' ∧ zInv υ := by
  obtain ⟨q1, q3⟩ := hq
  obtain ⟨m1, m2, m3⟩ := hm
  exact ⟨by rw [q3, m3, ew, ev], h.try q1 m1 (by rw [m2, ew])⟩
theorem zRes.o {w v : Int} (h : zRes σ τ a w v) : ∀ q, 189 ≤ q → τ q = σ q := fun q hq => h.1.1 q (by omega) (by omega) (by omega) (by omega)
theorem zAsk.o {w v : Int} (h : zAsk σ τ a w v) : ∀ q, 189 ≤ q → τ q = σ q := fun q hq => h.1.2.2.1 q (by omega) (by omega)
theorem zAcC.o {w v : Int} {S' : zSt} (h : zAcC σ τ a w v S') : ∀ q, 189 ≤ q → τ q = σ q := fun q hq => by
  rcases h with ⟨_, _, h⟩ | ⟨_, _, h⟩
  · exact h.2.2.1 q (by omega) (by omega)
  · exact h.2.2.1 q (by omega)
end STEP
