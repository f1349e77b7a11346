/-! the model: what always holds of its cells; its texts -/
def mby (σ : Mem) (t : Nat) : Int → Int := fun k => σ 54 (39 * (t : Int) + k)
def MtOK (σ : Mem) : Prop := ((0 ≤ σ 53 0 ∧ σ 53 0 ≤ 39) ∧ (0 ≤ σ 53 1 ∧ σ 53 1 ≤ 39)) ∧ ∀ k, 0 ≤ k → k < 78 → 0 ≤ σ 54 k ∧ σ 54 k < 256
/-- a byte of a text, -1 behind its end -/
def mbt (σ : Mem) (t : Nat) (k : Int) : Int := if k < σ 53 (t : Int) then mby σ t k else -1
theorem mbt_in {σ : Mem} (h : MtOK σ) {t : Nat} (ht : t < 2) {k : Int} (hk : 0 ≤ k) : -1 ≤ mbt σ t k ∧ mbt σ t k < 256 := by
  unfold mbt mby
  split
  · have h1 : σ 53 (t : Int) ≤ 39 := by
      rcases (show t = 0 ∨ t = 1 by omega) with rfl | rfl
      · exact h.1.1.2
      · exact h.1.2.2
    have := h.2 (39 * (t : Int) + k) (by omega) (by omega)
    omega
  · omega
/-- of the four bytes from a on, g may stand -/
def GdQ (σ : Mem) (t : Nat) (a g : Int) : Prop := (0 ≤ g ∧ g ≤ 4) ∧ (∀ j, 0 ≤ j → j < g → a + j < σ 53 (t : Int) ∧ fitB t (mby σ t (a + j)) (a + j) = true) ∧ (g < 4 → ¬ (a + g < σ 53 (t : Int) ∧ fitB t (mby σ t (a + g)) (a + g) = true))
def fgz (σ : Mem) (t : Nat) (k hi : Int) : Int := if 0 ≤ mbt σ t k - 48 ∧ mbt σ t k - 48 ≤ hi then mbt σ t k - 48 else -1
theorem fgz_fit {σ : Mem} {t : Nat} {k hi : Int} (hk : k % 5 < 3) (hh : gr t (k % 5) = hi) : (fgz σ t k hi ≠ -1 ↔ (k < σ 53 (t : Int) ∧ fitB t (mby σ t k) k = true)) ∧ (fgz σ t k hi ≠ -1 → fgz σ t k hi = mby σ t k - 48) := by
  unfold fgz fitB mbt
  rw [if_pos hk, hh]
  simp only [decide_eq_true_eq]
  by_cases c : k < σ 53 (t : Int)
  · simp only [c, if_true, true_and]
    by_cases q : 0 ≤ mby σ t k - 48 ∧ mby σ t k - 48 ≤ hi
    · rw [if_pos q]
      exact ⟨⟨fun _ => by omega, fun _ => by omega⟩, fun _ => rfl⟩
    · rw [if_neg q]
      exact ⟨⟨fun w => absurd rfl w, fun w => by omega⟩, fun w => absurd rfl w⟩
  · simp only [c, if_false, false_and]
    rw [if_neg (by omega)]
    exact ⟨⟨fun w => absurd rfl w, fun w => w.elim⟩, fun w => absurd rfl w⟩
theorem ix_fit {σ : Mem} {t : Nat} (ht : t < 2) {k : Int} (hk : k % 5 = 3) : (ixT t (mbt σ t k) ≠ -1 ↔ (k < σ 53 (t : Int) ∧ fitB t (mby σ t k) k = true)) ∧ (ixT t (mbt σ t k) ≠ -1 → ixT t (mbt σ t k) = ixT t (mby σ t k)) := by
  unfold mbt fitB
  rw [if_neg (show ¬ k % 5 < 3 by omega), if_pos hk]
  simp only [decide_eq_true_eq]
  by_cases c : k < σ 53 (t : Int)
  · have := ixT_in t (mby σ t k)
    simp only [c, if_true, true_and]
    exact ⟨by omega, fun _ => trivial⟩
  · simp only [c, if_false, false_and]
    have : ixT t (-1) = -1 := by
      have q0 := tbl_in ht (x := 0) (by omega)
      have q1 := tbl_in ht (x := 1) (by omega)
      have q2 := tbl_in ht (x := 2) (by omega)
      have q3 := tbl_in ht (x := 3) (by omega)
      unfold ixT
      rw [if_neg (by omega), if_neg (by omega), if_neg (by omega), if_neg (by omega)]
    rw [this]
    exact ⟨⟨fun w => absurd rfl w, fun w => w.elim⟩, fun w => absurd rfl w⟩
