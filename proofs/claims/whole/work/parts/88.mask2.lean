/-! the next to ask: both sides' greatest number -/
def mMo (p : Nat → Bool) (g : Nat → Int) (N : Nat) : Nat → Int
  | 0 => 0
  | i + 1 => max (mMo p g N i) (cnt (fun d => p i && p d && decide (g i = g d)) N)
theorem cntf (N : Nat) : cnt (fun _ => false) N = 0 := cnt_0 (fun _ _ => rfl)
theorem mMo_up (p : Nat → Bool) (g : Nat → Int) (N : Nat) {M : Int} (h0 : 0 ≤ M) {n : Nat} (h : ∀ i, i < n → cnt (fun d => p i && p d && decide (g i = g d)) N ≤ M) : mMo p g N n ≤ M := by
  induction n with
  | zero => exact h0
  | succ n ih =>
    simp only [mMo]
    have h1 := ih (fun i hi => h i (by omega))
    have h2 := h n (by omega)
    omega
theorem mMo_lo (p : Nat → Bool) (g : Nat → Int) (N : Nat) {n i : Nat} (hi : i < n) : cnt (fun d => p i && p d && decide (g i = g d)) N ≤ mMo p g N n := by
  induction n with
  | zero => omega
  | succ n ih =>
    simp only [mMo]
    by_cases c : i = n
    · subst c; omega
    · have := ih (by omega); omega
theorem mMo_in (p : Nat → Bool) (g : Nat → Int) (N n : Nat) : 0 ≤ mMo p g N n ∧ mMo p g N n ≤ N := by
  refine ⟨?_, mMo_up p g N (by omega) (fun i _ => (cnt_in _ N).2)⟩
  induction n with
  | zero => exact Int.le_refl _
  | succ n ih => simp only [mMo]; omega
theorem mAl_lo (p : Nat → Bool) (g : Nat → Int) {n i : Nat} (hi : i < n) (hp : p i = true) : cnt (fun d => p d && decide (g d = g i)) n ≤ mAl p g n := by
  induction n with
  | zero => omega
  | succ n ih =>
    simp only [mAl]
    by_cases c : i = n
    · subst c; rw [if_pos hp]; omega
    · have h1 := ih (by omega)
      by_cases q : p n = true
      · rw [if_pos q]
        by_cases w : g n = g i
        · rw [w]; omega
        · have : cnt (fun d => p d && decide (g d = g i)) (n + 1) = cnt (fun d => p d && decide (g d = g i)) n := cnt_f (by rw [decide_eq_false w, Bool.and_false])
          rw [this]; omega
      · rw [if_neg q]
        have : cnt (fun d => p d && decide (g d = g i)) (n + 1) = cnt (fun d => p d && decide (g d = g i)) n := cnt_f (by
          have : p n = false := by cases w : p n with
            | true => exact absurd w q
            | false => rfl
          show (p n && _) = false
          rw [this]; rfl)
        rw [this]; exact h1
theorem mAl_up (p : Nat → Bool) (g : Nat → Int) (N : Nat) {M : Int} (h0 : 0 ≤ M) {n : Nat} (hn : n ≤ N) (h : ∀ i, i < n → p i = true → cnt (fun d => p d && decide (g d = g i)) N ≤ M) : mAl p g n ≤ M := by
  induction n with
  | zero => exact h0
  | succ n ih =>
    have h1 := ih (by omega) (fun i hi => h i (by omega))
    simp only [mAl]
    by_cases q : p n = true
    · rw [if_pos q]
      have h2 := h n (by omega) q
      have h3 := cnt_mono (fun d => p d && decide (g d = g n)) (n + 1) (N - (n + 1))
      rw [show n + 1 + (N - (n + 1)) = N by omega] at h3
      omega
    · rw [if_neg q]; exact h1
theorem mMo_row (p : Nat → Bool) (g : Nat → Int) (N i : Nat) : cnt (fun d => p i && p d && decide (g i = g d)) N = if p i = true then cnt (fun d => p d && decide (g d = g i)) N else 0 := by
  cases c : p i with
  | true =>
    rw [if_pos rfl]
    refine cnt_cg (fun d _ => ?_)
    rw [Bool.true_and]
    congr 1
    rw [decide_eq_decide]; exact eq_comm
  | false =>
    rw [if_neg (by decide)]
    exact cnt_0 (fun d _ => rfl)
theorem mMo_mAl (p : Nat → Bool) (g : Nat → Int) (N : Nat) : mMo p g N N = mAl p g N := by
  have a0 := (mAl_in p g N).1
  have b0 := (mMo_in p g N N).1
  refine Int.le_antisymm (mMo_up p g N a0 (fun i hi => ?_)) (mAl_up p g N b0 (Nat.le_refl _) (fun i hi hp => ?_))
  · rw [mMo_row]
    split
    · rename_i q; exact mAl_lo p g hi q
    · exact a0
  · have := mMo_lo p g N hi
    rw [mMo_row, if_pos hp] at this
    exact this
theorem mMo_cg {p : Nat → Bool} {g g' : Nat → Int} {N n : Nat} (hn : n ≤ N) (h : ∀ i, i < N → g i = g' i) : mMo p g N n = mMo p g' N n := by
  induction n with
  | zero => rfl
  | succ n ih =>
    simp only [mMo]
    rw [ih (by omega), cnt_cg (fun d hd => by rw [h n (by omega), h d hd])]
theorem RR.oth {σ σ' : Mem} (h : RR σ) (hs : ∀ i, i ∉ [67, 71, 72, 77] → σ' i = σ i) : RR σ' := by
  have f : FrM σ σ' := ⟨fun i hi => hs i (fun q => hi (by simp only [List.mem_cons, List.not_mem_nil, or_false] at *; omega)), fun k _ _ _ _ => by rw [hs 1 (by decide)]⟩
  refine ⟨h.1.mm f.1, h.2.1.mm f, ?_⟩
  have hn := h.1.ns
  obtain ⟨-, -, a, b, c, d⟩ := h
  unfold RD
  rw [hs 1 (by decide), hs 0 (by decide), hs 2 (by decide), hs 59 (by decide), hs 60 (by decide), hs 61 (by decide), hs 33 (by decide), hs 34 (by decide), hs 35 (by decide), hs 55 (by decide), hs 56 (by decide), hs 57 (by decide), hs 58 (by decide)]
  refine ⟨a, b, fun s q => ?_, d⟩
  rw [hs (8 + s) (by simp; omega)]; exact c s q
theorem ask_w {σ σ' : Mem} {d k : Nat} (h : RR σ) (h14 : σ 1 14 = 2 ^ d) (hd : (d : Int) < σ 2 4) (hk : (k : Int) < σ 0 2) (hq : RunQ σ σ') : mkN σ' k (-1) = mkW σ k d := by
  have hn := h.1.row.1
  have e7 := h.2.2.2.1
  have hw := h.2.2.2.2.2
  have hz := h.z hk
  have e56 : σ 56 k = σ (8 + k) 1 := by rw [← hz.2.1]; exact (mz_v σ k).2.1.symm
  rw [hq.mk (by rw [h.2.2.1]; omega) (by omega)]
  have ev : evs (fun i => σ 59 (phi d i)) ((σ 1 7).toNat - 1) 50 = evs (fun i => σ 33 (phi d i)) ((σ 2 4).toNat - 1) 50 := by
    rw [e7]
    exact evs_cg (fun i i1 i2 => by
      have := phi_lt (d := d) (i := i) (n := (σ 2 4).toNat) ⟨i1, i2⟩
      exact (hw _ this.1 (by omega)).1) 50
  unfold mcn mkW
  rw [mE_not h14 (by omega) (by omega), ev, e56]
  exact ((night_map (z := mz σ k) (z' := σ (8 + k)) (hr := σ 59) (hr' := fun i => σ 33 (phi d i)) (ho := σ 60) (ho' := fun i => σ 34 (phi d i)) (so := σ 61) (so' := fun i => σ 35 (phi d i)) (phi d) (es := evs (fun i => σ 33 (phi d i)) ((σ 2 4).toNat - 1) 50) ⟨hz.1.symm, hz.2.1.symm, hz.2.2.1.symm, hz.2.2.2.symm⟩ (fun e he => by
    have q := (evs_mem.mp he).1
    have := phi_lt (d := d) (i := e) (n := (σ 2 4).toNat) ⟨q.1, q.2⟩
    obtain ⟨w1, w2, w3⟩ := hw _ this.1 (by omega)
    exact ⟨w1.symm, w2.symm, w3.symm⟩) (σ (8 + k) 1)).2 3 (fun e => decide ((-1 : Int) = -1 ∨ σ 61 e = -1)) (fun _ => true) (fun e _ => by simp)).symm
