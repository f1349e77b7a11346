theorem cmB_f {σ : Mem} {hr ho so : Int → Int} {n k : Nat} (h : cmB σ hr ho so n k = false) (m : Nat) : cmB σ hr ho so n (k + m) = false := by
  induction m with
  | zero => exact h
  | succ m ih => rw [← Nat.add_assoc]; simp only [cmB]; rw [ih]; rfl
theorem InvC.tl {σ σ' : Mem} (h : InvC σ) (r : ∀ i, i ∉ [4, 41, 42, 43] → σ' i = σ i) (ht : TlOK σ') : InvC σ' := by
  have hns := h.ns
  obtain ⟨a1, ⟨f, b1, b2, b3⟩, ⟨g, c1, c2, c3, c4⟩, a4, a5, a6, a7⟩ := h
  refine ⟨?_, ⟨f, ?_, ?_, ?_⟩, ⟨g, ?_, ?_, ?_, ?_⟩, ?_, ht, ?_, ?_⟩
  · rw [TxOK, r 16 (by decide), r 17 (by decide), r 29 (by decide), r 30 (by decide), r 31 (by decide), r 32 (by decide)]; exact a1
  · rw [r 29 (by decide), r 16 (by decide)]; exact b1
  · rw [r 0 (by decide), r 16 (by decide)]; exact b2
  · intro s hs
    rw [r 0 (by decide)] at hs
    rw [r (8 + s) (by simp; omega), r 29 (by decide)]; exact b3 s hs
  · rw [r 30 (by decide), r 17 (by decide)]; exact c1
  · rw [r 2 (by decide), r 17 (by decide)]; exact c2
  · rw [r 33 (by decide), r 34 (by decide), r 35 (by decide), r 36 (by decide), r 2 (by decide)]; exact c3
  · intro d q1 q2
    rw [r 2 (by decide)] at q2
    rw [r 33 (by decide), r 34 (by decide), r 35 (by decide), r 30 (by decide)]; exact c4 d q1 q2
  · rw [r 25 (by decide)]; exact a4
  · intro s hs
    rw [r (18 + s) (by simp; omega)]; exact a6 s hs
  · rw [r 0 (by decide)]; exact a7
theorem InvC.sh {σ σ' : Mem} (h : InvC σ) (r : ∀ i, i ∉ [0, 18, 19, 20, 21, 49, 50, 51, 52] → σ' i = σ i) (h02 : σ' 0 2 = σ 0 2) (h7 : 0 ≤ σ' 0 7 ∧ σ' 0 7 ≤ 5) (ht : ShOK σ') : InvC σ' := by
  have hns := h.ns
  obtain ⟨a1, ⟨f, b1, b2, b3⟩, ⟨g, c1, c2, c3, c4⟩, a4, a5, a6, a7⟩ := h
  refine ⟨?_, ⟨f, ?_, ?_, ?_⟩, ⟨g, ?_, ?_, ?_, ?_⟩, ?_, ?_, ht, h7⟩
  · rw [TxOK, r 16 (by decide), r 17 (by decide), r 29 (by decide), r 30 (by decide), r 31 (by decide), r 32 (by decide)]; exact a1
  · rw [r 29 (by decide), r 16 (by decide)]; exact b1
  · rw [h02, r 16 (by decide)]; exact b2
  · intro s hs
    rw [h02] at hs
    rw [r (8 + s) (by simp; omega), r 29 (by decide)]; exact b3 s hs
  · rw [r 30 (by decide), r 17 (by decide)]; exact c1
  · rw [r 2 (by decide), r 17 (by decide)]; exact c2
  · rw [r 33 (by decide), r 34 (by decide), r 35 (by decide), r 36 (by decide), r 2 (by decide)]; exact c3
  · intro d q1 q2
    rw [r 2 (by decide)] at q2
    rw [r 33 (by decide), r 34 (by decide), r 35 (by decide), r 30 (by decide)]; exact c4 d q1 q2
  · rw [r 25 (by decide)]; exact a4
  · rw [TlOK, r 4 (by decide), r 41 (by decide), r 42 (by decide), r 43 (by decide)]; exact a5
abbrev tokP (a b c : Int) : Prop := (0 ≤ a ∧ a < 8) ∧ (0 ≤ b ∧ b < 4) ∧ (0 ≤ c ∧ c < 9)
def RdOk (it : Int → Int) (sz n0 k : Int) : Prop := 3 * k + 2 < sz ∧ n0 + k < 8 ∧ tokP (it (3 * k)) (it (3 * k + 1)) (it (3 * k + 2))
/-- m triples are read -/
def RdQ (it : Int → Int) (sz n0 m : Int) : Prop := 0 ≤ m ∧ (∀ k, 0 ≤ k → k < m → RdOk it sz n0 k) ∧ ¬ RdOk it sz n0 m
theorem RdQ_un {it : Int → Int} {sz n0 m m' : Int} (h : RdQ it sz n0 m) (h' : RdQ it sz n0 m') : m = m' := by
  rcases Int.lt_trichotomy m m' with q | q | q
  · exact absurd (h'.2.1 m h.1 q) h.2.2
  · exact q
  · exact absurd (h.2.1 m' h'.1 q) h'.2.2
theorem TlOK.add {σ σ' : Mem} (h : TlOK σ) {a b c : Int} (ht : tokP a b c) (hn : σ 4 3 < 8) (e : σ' = up (up (up (up σ 41 (σ 4 3) a) 42 (σ 4 3) b) 43 (σ 4 3) c) 4 3 (σ 4 3 + 1)) : TlOK σ' := by
  obtain ⟨h1, h2⟩ := h
  have e4 : σ' 4 3 = σ 4 3 + 1 := by rw [e]; simp [up]
  refine ⟨by omega, fun k q1 q2 => ?_⟩
  rw [e4] at q2
  by_cases c : k = σ 4 3
  · rw [e, c]
    simp [up]
    exact ht
  · rw [e]
    simp [up, c]
    exact h2 k q1 (by omega)
theorem cnt_t {p : Nat → Bool} {n : Nat} (h : p n = true) : cnt p (n + 1) = cnt p n + 1 := by simp only [cnt, h, if_true]
theorem cnt_f {p : Nat → Bool} {n : Nat} (h : p n = false) : cnt p (n + 1) = cnt p n := by simp [cnt, h]
