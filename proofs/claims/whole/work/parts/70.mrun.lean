/-! all sleepers' nights in the model -/
def mTS (σ : Mem) (k d : Int) : Bool := tsL (mz σ k) (σ 59) (σ 60) (σ 61) (mE σ 50) (σ 56 k) (σ 1 11) (σ 1 12) d && decide (σ 1 15 / 2 ^ k.toNat % 2 ≠ 1)
def RnQ (σ σ' : Mem) (j : Int) : Prop := (∀ d, 0 ≤ d → d < σ 1 7 → σ' 64 (8 * d + j) = mft σ j d (mE σ 50) ∧ σ' 65 (8 * d + j) = if mTS σ j d = true then 1 else 0) ∧ (∀ h, 0 ≤ h → h < 50 → σ' 62 (50 * j + h) = mDp σ j h) ∧ σ' 66 j = mcn σ j 2 (fun _ => true) (mE σ 50)
def RunQ (σ σ' : Mem) : Prop := Same NS σ σ' ∧ ∀ j, 0 ≤ j → j < σ 1 2 → RnQ σ σ' j
theorem mw_same {σ σ2 : Mem} (hS : Same NS σ σ2) : mz σ2 = mz σ ∧ mE σ2 = mE σ ∧ mDp σ2 = mDp σ := by
  have k1 : σ2 1 = σ 1 := hS 1 (by decide)
  have k55 : σ2 55 = σ 55 := hS 55 (by decide)
  have k56 : σ2 56 = σ 56 := hS 56 (by decide)
  have k57 : σ2 57 = σ 57 := hS 57 (by decide)
  have k58 : σ2 58 = σ 58 := hS 58 (by decide)
  have k59 : σ2 59 = σ 59 := hS 59 (by decide)
  have k60 : σ2 60 = σ 60 := hS 60 (by decide)
  have k61 : σ2 61 = σ 61 := hS 61 (by decide)
  have a : mz σ2 = mz σ := by
    funext k i
    unfold mz
    rw [k55, k56, k57, k58]
  have p : mP σ2 = mP σ := by
    funext d
    unfold mP
    rw [k1]
  have b : mE σ2 = mE σ := by
    funext h
    unfold mE
    rw [k1, k59, p]
  refine ⟨a, b, ?_⟩
  funext k h
  unfold mDp mln
  rw [a, b, k56, k57, k58, k59, k60, k61]
theorem NPre.same {σ σ2 : Mem} (h : NPre σ) (hS : Same NS σ σ2) : NPre σ2 := by
  unfold NPre
  rw [(mw_same hS).1, hS 1 (by decide), hS 59 (by decide), hS 60 (by decide), hS 61 (by decide)]
  exact h
theorem NMI_tr {σ σ2 σ3 : Mem} {k : Int} {H : Int} (hS : Same NS σ σ2) (h : NMI σ2 σ3 k (mE σ2 50) H) : OthK σ2 σ3 k ∧ σ3 66 k = mcn σ k 2 (fun _ => true) (mE σ 50) ∧ (∀ h, 0 ≤ h → h < H → σ3 63 (50 * k + h) = (if 0 < mcn σ k 2 (fun d => decide (σ 59 d = h)) (mE σ 50) then 1 else 0) ∧ σ3 62 (50 * k + h) = mDp σ k h) ∧
    ∀ d, 0 ≤ d → d < 9 → σ3 64 (8 * d + k) = mft σ k d (mE σ 50) ∧ σ3 65 (8 * d + k) = if mft σ k d (mE σ 50) = 3 ∧ σ 1 11 ≤ mdp σ k d (mE σ 50) then 1 else 0 := by
  obtain ⟨a, b, c⟩ := mw_same hS
  unfold NMI mcn mft mdp at h
  rw [a, b, c, hS 1 (by decide), hS 56 (by decide), hS 59 (by decide), hS 60 (by decide), hS 61 (by decide)] at h
  exact h
theorem late_f {σ : Mem} {k d f : Int} (hd : 0 ≤ σ 59 d ∧ σ 59 d < 50) (hs : 0 ≤ σ 1 12) (hf : f = max 0 (σ 59 d - σ 1 12)) : lateL (mz σ k) (σ 59) (σ 60) (σ 61) (mE σ 50) (σ 56 k) (σ 1 12) (σ 59 d) = false ↔ ∀ h, f ≤ h → h < σ 59 d + 1 → ¬ 0 < mcn σ k 2 (fun e => decide (σ 59 e = h)) (mE σ 50) := by
  unfold lateL
  rw [List.any_eq_false]
  constructor
  · intro h g g1 g2 g3
    have := h g.toNat (List.mem_range.mpr (by omega))
    simp only [Bool.and_eq_true, decide_eq_true_eq, not_and] at this
    rw [show ((g.toNat : Nat) : Int) = g by omega] at this
    exact this ⟨by omega, by omega⟩ g3
  · intro h g hg
    simp only [Bool.and_eq_true, decide_eq_true_eq, not_and]
    intro g1 g2
    exact h g (by omega) (by omega) g2
