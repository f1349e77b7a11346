/-! the model's sheets: words -/
abbrev CC : List Nat := [0, 2, 4, 8, 9, 10, 11, 12, 13, 14, 15, 16, 17, 18, 19, 20, 21, 25, 29, 30, 31, 32, 33, 34, 35, 36, 41, 42, 43]
theorem InvC.all {σ σ' : Mem} (h : InvC σ) (r : ∀ i, i ∈ CC → σ' i = σ i) : InvC σ' := by
  have bd : ∀ s : Nat, s < 8 → σ' (8 + s) = σ (8 + s) := fun s hs => r _ (by simp; omega)
  have sh : ∀ s : Nat, s < 4 → σ' (18 + s) = σ (18 + s) := fun s hs => r _ (by simp; omega)
  have hns := h.ns
  obtain ⟨h1, ⟨f, a1, a2, a3⟩, ⟨g, b1, b2, b3, b4⟩, h4, h5, h6, h7⟩ := h
  refine ⟨?_, ⟨f, ?_, ?_, ?_⟩, ⟨g, ?_, ?_, ?_, ?_⟩, ?_, ?_, ?_, ?_⟩
  · rw [TxOK, r 16 (by decide), r 17 (by decide), r 29 (by decide), r 30 (by decide), r 31 (by decide), r 32 (by decide)]; exact h1
  · rw [r 29 (by decide), r 16 (by decide)]; exact a1
  · rw [r 0 (by decide), r 16 (by decide)]; exact a2
  · intro s hs
    rw [r 0 (by decide)] at hs
    rw [bd s (by omega), r 29 (by decide)]; exact a3 s hs
  · rw [r 30 (by decide), r 17 (by decide)]; exact b1
  · rw [r 2 (by decide), r 17 (by decide)]; exact b2
  · rw [r 33 (by decide), r 34 (by decide), r 35 (by decide), r 36 (by decide), r 2 (by decide)]; exact b3
  · intro d q1 q2
    rw [r 2 (by decide)] at q2
    rw [r 33 (by decide), r 34 (by decide), r 35 (by decide), r 30 (by decide)]; exact b4 d q1 q2
  · rw [r 25 (by decide)]; exact h4
  · rw [TlOK, r 4 (by decide), r 41 (by decide), r 42 (by decide), r 43 (by decide)]; exact h5
  · intro s hs
    rw [sh s hs]; exact h6 s hs
  · rw [r 0 (by decide)]; exact h7
theorem Rel.all {σ σ' : Mem} (h : Rel σ) (r : ∀ i, i ∈ [16, 17, 25, 29, 30, 53, 54] → σ' i = σ i) (f : σ' 1 11 = σ 1 11 ∧ σ' 1 12 = σ 1 12 ∧ σ' 1 13 = σ 1 13) : Rel σ' := by
  unfold Rel MtOK at *
  rw [f.1, f.2.1, f.2.2, r 53 (by decide), r 54 (by decide), r 16 (by decide), r 17 (by decide), r 29 (by decide), r 30 (by decide), r 25 (by decide)]
  exact h
def lkM (σ : Mem) (s f i : Int) : Int := if σ 73 s = 0 then 1 else if σ 74 s ≠ f then 3 else if 0 ≤ i ∧ i < σ 75 s then 0 else 2
theorem lkM_in (σ : Mem) (s f i : Int) : 0 ≤ lkM σ s f i ∧ lkM σ s f i ≤ 3 := by
  unfold lkM
  repeat (first | omega | split)
/-- all but the model's scratch and the items of its sheets -/
def FrW (σ σ' : Mem) : Prop := (∀ i, i ∉ MSC → i ≠ 76 → σ' i = σ i) ∧ ∀ k, k ≠ 2 → k ≠ 7 → k ≠ 14 → k ≠ 15 → σ' 1 k = σ 1 k
theorem FrW.of {σ σ' : Mem} (h : FrM σ σ') : FrW σ σ' := ⟨fun i q _ => h.1 i q, h.2⟩
theorem FrW.tr {a b c : Mem} (h1 : FrW a b) (h2 : FrW b c) : FrW a c := ⟨fun i q w => by rw [h2.1 i q w, h1.1 i q w], fun k q1 q2 q3 q4 => by rw [h2.2 k q1 q2 q3 q4, h1.2 k q1 q2 q3 q4]⟩
theorem FrW.it {σ : Mem} {x v : Int} : FrW σ (up σ 76 x v) := ⟨fun i _ w => up_row w, fun k _ _ _ _ => up_i (by decide)⟩
theorem InvC.fw {σ σ' : Mem} (h : InvC σ) (hf : FrW σ σ') : InvC σ' := h.all (fun i q => hf.1 i (fun w => by simp only [List.mem_cons, List.not_mem_nil, or_false] at *; omega) (fun w => by simp only [List.mem_cons, List.not_mem_nil, or_false] at *; omega))
theorem Rel.fw {σ σ' : Mem} (h : Rel σ) (hf : FrW σ σ') : Rel σ' := h.all (fun i q => hf.1 i (fun w => by simp only [List.mem_cons, List.not_mem_nil, or_false] at *; omega) (fun w => by simp only [List.mem_cons, List.not_mem_nil, or_false] at *; omega)) ⟨hf.2 11 (by decide) (by decide) (by decide) (by decide), hf.2 12 (by decide) (by decide) (by decide) (by decide), hf.2 13 (by decide) (by decide) (by decide) (by decide)⟩
theorem fw_dpH {σ σ' : Mem} (hf : FrW σ σ') {s : Nat} (hs8 : s < 8) (k : Int) : dpH σ' s k = dpH σ s k := by
  unfold dpH
  rw [hf.1 2 (by decide) (by decide), hf.1 33 (by decide) (by decide), hf.1 34 (by decide) (by decide), hf.1 35 (by decide) (by decide), hf.1 (8 + s) (by simp; omega) (by omega)]
theorem dpH_in {σ : Mem} (h : InvC σ) {s : Nat} (hs : (s : Int) < σ 0 2) (k : Int) : 0 ≤ dpH σ s k ∧ dpH σ s k ≤ 10 := by
  have := (h.bed hs).2.2.1
  unfold dpH
  exact deepOf_in this
