/-! what the memory holds of a night behind some deeds -/
def NightI (σ σ1 : Mem) (z hr ho so : Int → Int) (es : List Int) : Prop := Same [5, 44, 45, 46, 47] σ σ1 ∧ σ1 5 7 = lnL z hr ho so es (z 1) ∧ σ1 5 4 = cnL z hr ho so 3 (fun _ => true) es (z 1) ∧ σ1 5 5 = cnL z hr ho so 2 (fun _ => true) es (z 1) ∧
  (∀ s, 0 ≤ s → s < 4 → σ1 47 s = cnL z hr ho so 3 (fun d => decide (so d = s)) es (z 1)) ∧ WB (σ1 5 8) (fun h => 0 < cnL z hr ho so 2 (fun d => decide (hr d = (h : Int))) es (z 1)) ∧
  (∀ d ∈ es, σ1 44 d = ldw z ho so d ∧ σ1 45 d = dpL z hr ho so d es (z 1) ∧ σ1 46 d = ftL z hr ho so d es (z 1))
theorem NightI_0 {σ σ1 : Mem} {z hr ho so : Int → Int} (h : LieQ σ σ1 (z 1)) : NightI σ σ1 z hr ho so [] := by
  obtain ⟨h1, h2, h3, h4, h5, h6, h7⟩ := h
  refine ⟨h1.wide (by simp), h2, h4, h5, fun s a b => h7 s a b, ?_, fun d hd => by cases hd⟩
  rw [h3]
  exact WB_0 (fun k _ => by simp [cnL])
theorem NightI_s {σ σ1 σ2 : Mem} {z hr ho so : Int → Int} {es : List Int} {e : Int} (h : NightI σ σ1 z hr ho so es) (hq : MeetQ σ1 σ2 z hr ho so e) (hn : e ∉ es) (hh : 0 ≤ hr e ∧ hr e < 50) : NightI σ σ2 z hr ho so (es ++ [e]) := by
  obtain ⟨h1, h2, h3, h4, h5, h6, h7⟩ := h
  obtain ⟨q1, q2, ⟨q3, q4, q5⟩, q6, q7, q8, q9, q10, q11⟩ := hq
  rw [h2] at q4 q5 q6 q7 q8 q10
  simp only [h2] at q11
  refine ⟨h1.tr q1 (by simp) (by simp), ?_, ?_, ?_, fun s a b => ?_, ?_, fun d hd => ?_⟩
  · rw [q6, lnL_app]; rfl
  · rw [q7, cnL_one, h3]; simp
  · rw [q8, cnL_one, h4]; simp
  · rw [q11 s, cnL_one, h5 s a b]
    simp only [decide_eq_true_eq, eq_comm (a := s)]
  · rw [q10]
    by_cases hf : ftw z hr ho so e (lnL z hr ho so es (z 1)) = 2
    · rw [if_pos hf]
      refine WB_or h6 hh (fun j _ => ?_)
      rw [cnL_one]
      have := (cnL_in (z := z) (hr := hr) (ho := ho) (so := so) 2 (fun d => decide (hr d = (j : Int))) es (z 1)).1
      simp only [hf, true_and, decide_eq_true_eq]
      constructor
      · intro hp
        by_cases hj : hr e = j
        · exact Or.inr hj.symm
        · rw [if_neg hj] at hp; exact Or.inl (by omega)
      · rintro (hp | hp)
        · split <;> omega
        · rw [if_pos hp.symm]; omega
    · rw [if_neg hf]
      have e1 : (fun h : Nat => 0 < cnL z hr ho so 2 (fun d => decide (hr d = (h : Int))) (es ++ [e]) (z 1)) = (fun h : Nat => 0 < cnL z hr ho so 2 (fun d => decide (hr d = (h : Int))) es (z 1)) := by
        funext j
        rw [cnL_one, if_neg (fun q => hf q.1)]
        simp
      rw [e1]; exact h6
  · rcases List.mem_append.mp hd with hd | hd
    · have hne : d ≠ e := fun q => hn (q ▸ hd)
      obtain ⟨a1, a2, a3⟩ := h7 d hd
      obtain ⟨b1, b2, b3⟩ := q2 d hne
      rw [dpL_in hd, ftL_in hd, b1, b2, b3]
      exact ⟨a1, a2, a3⟩
    · have hde : d = e := by simpa using hd
      subst hde
      rw [dpL_new hn, ftL_new hn]
      exact ⟨q3, q4, q5⟩
theorem row_ord {hr ho so od : Int → Int} {n : Int} (h : RowOK hr ho so od n) {k : Int} (hk : 0 ≤ k ∧ k < n) : (0 ≤ od k ∧ od k < n) ∧ od k ∉ ordL od k.toNat := by
  obtain ⟨h1, h2, h3⟩ := h
  have hs := ordL_app od k.toNat (n.toNat - k.toNat)
  rw [show k.toNat + (n.toNat - k.toNat) = n.toNat by omega] at hs
  have hnd := evs_nodup hr n.toNat 50
  rw [← h3] at hnd
  constructor
  · have : od k ∈ ordL od n.toNat := ordL_mem.mpr ⟨k.toNat, by omega, by rw [show ((k.toNat : Nat) : Int) = k by omega]⟩
    rw [h3] at this
    have := (evs_mem.mp this).1
    omega
  · rw [hs, List.nodup_append] at hnd
    intro hmem
    refine hnd.2.2 _ hmem (od k) ?_ rfl
    apply List.mem_map.mpr
    exact ⟨0, by rw [List.mem_range]; omega, by rw [show ((k.toNat + 0 : Nat) : Int) = k by omega]⟩
theorem row_in {hr ho so od : Int → Int} {n : Int} (h : RowOK hr ho so od n) {d : Int} (hd : 0 ≤ d ∧ d < n) : d ∈ ordL od n.toNat := by
  obtain ⟨h1, h2, h3⟩ := h
  rw [h3]
  have := h2 d hd.1 hd.2
  exact evs_mem.mpr ⟨by omega, by omega⟩
theorem row_hr {hr ho so od : Int → Int} {n : Int} (h : RowOK hr ho so od n) {k : Nat} (hk : k ≤ n.toNat) : ∀ d ∈ ordL od k, 0 ≤ hr d ∧ hr d < 50 := by
  intro d hd
  obtain ⟨j, hj, rfl⟩ := ordL_mem.mp hd
  have h1 := (row_ord h (k := j) (by omega)).1
  exact (h.2.1 _ h1.1 h1.2).1
theorem late_iff {z hr ho so : Int → Int} {es : List Int} {l m si hour f : Int} (hw : WB m (fun h => 0 < cnL z hr ho so 2 (fun d => decide (hr d = (h : Int))) es l)) (hh : 0 ≤ hour ∧ hour < 50) (hs : 0 ≤ si) (hf : f = max 0 (hour - si)) : (m / 2 ^ f.toNat % 2 ^ (hour - f + 1).toNat = 0) ↔ lateL z hr ho so es l si hour = false := by
  rw [WB_late hw (by omega) (by omega) hh.2]
  unfold lateL
  rw [List.any_eq_false]
  constructor
  · intro h k hk
    simp only [Bool.and_eq_true, decide_eq_true_eq, not_and]
    intro h1 h2
    exact h k (by omega) (by omega) h2
  · intro h k h1 h2 h3
    have := h k (List.mem_range.mpr (by omega))
    simp only [Bool.and_eq_true, decide_eq_true_eq, not_and] at this
    exact this ⟨by omega, by omega⟩ h3
def PassQ (σ σ' : Mem) (z hr ho so : Int → Int) (es : List Int) (n : Int) (r : Int → Int) : Prop := Same [5, 44, 45, 46, 47] σ σ' ∧ σ' 5 4 = cnL z hr ho so 3 (fun _ => true) es (z 1) ∧ σ' 5 5 = cnL z hr ho so 2 (fun _ => true) es (z 1) ∧
  (∀ s, 0 ≤ s → s < 4 → σ' 47 s = cnL z hr ho so 3 (fun d => decide (so d = s)) es (z 1)) ∧ (∀ d, 0 ≤ d → d < n → σ' 44 d = ldw z ho so d ∧ σ' 46 d = ftL z hr ho so d es (z 1)) ∧ σ' 5 6 = bsum (fun d => tsL z hr ho so es (z 1) (r 0) (r 1) (d : Int)) n.toNat
