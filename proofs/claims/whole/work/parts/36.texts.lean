theorem s_wipe {Θ : Th} {σ : Mem} (text : Int) (ht : rng text) (h : InvC σ) : Spc Θ M_X7_wipe 1 [.ref (Th.r Θ 0), .int (I text)] σ (fun r σ' => (¬ (0 ≤ text ∧ text < 2) ∧ r = -2 ∧ σ' = σ) ∨ ((0 ≤ text ∧ text < 2) ∧ r = σ (16 + text.toNat) 3 ∧ TextQ σ σ' text.toNat 0 (σ (29 + text.toNat)))) := by
  refine Spc_of (by decide +kernel) (Nat.le_of_ble_eq_true rfl) (fun Γ hB hE => ?_)
  show Run Θ Γ 0 [(0, .ref (Th.r Θ 0)), (1, .int (I text))] [] σ
  have hx0 := h.1.1.1
  have hx1 := h.1.1.2
  refine R_iload_n hB (j := 1) dX7_wipe_0 rfl rfl ?_
  refine R_aload_n hB (j := 0) dX7_wipe_1 rfl rfl ?_
  refine R_getr hB (22) fl_X7_9 dX7_wipe_2 rfl rfl ?_
  refine R_alen hB (z := 2) rfl (by decide) rfl dX7_wipe_5 ?_
  refine P_cS1 hB (s_within _ _ (by omega) (by omega)) ms_X7_89 (by decide) dX7_wipe_6 rfl rfl (Nat.le_of_ble_eq_true rfl) (fun z6 h6 => ?_)
  refine R_if_ne hB 15 (by rw [h6]; split <;> omega) dX7_wipe_9 rfl (fun h9 => ?_) (fun h9 => ?_)
  · have hy : 0 ≤ text ∧ text < 2 := by split at h6 <;> omega
    rcases (show text = 0 ∨ text = 1 by omega) with rfl | rfl
    · show Run Θ Γ 15 [(0, .ref (Th.r Θ 0)), (1, .int (I 0))] [] σ
      refine R_aload_n hB (j := 0) dX7_wipe_15 rfl rfl ?_
      refine R_getr hB (22) fl_X7_9 dX7_wipe_16 rfl rfl ?_
      refine R_iload_n hB (j := 1) dX7_wipe_19 rfl rfl ?_
      refine R_aald hB (16) rfl (by decide) (by omega) rfl dX7_wipe_20 ?_
      refine R_geti hB fl_X7_93 dX7_wipe_21 rfl ?_
      refine R_istore_n hB (L' := [_, _, _]) dX7_wipe_24 rfl (Nat.le_of_ble_eq_true rfl) rfl ?_
      refine R_aload_n hB (j := 1) dX7_wipe_25 rfl rfl ?_
      refine R_iload_n hB (j := 2) dX7_wipe_26 rfl rfl ?_
      refine R_iconst hB dX7_wipe_27 ?_
      refine R_cV1 hB (s_resize_0 0 (by omega) h.1) mv_X7_100 rfl rfl (by decide) dX7_wipe_28 rfl rfl (Nat.le_of_ble_eq_true rfl) (fun z28 σ2 h28 => ?_)
      refine R_pop hB dX7_wipe_31 rfl ?_
      refine R_iload_n hB (j := 0) dX7_wipe_32 rfl rfl ?_
      exact R_iret hB hE rfl dX7_wipe_33 (Or.inr ⟨hy, rfl, (by
        obtain ⟨j1, j2, j3, j4, j5, j6, j7⟩ := h28
        refine ⟨h.tx0 j6 j7 (fun i hi => ?_) ?_, fun i hi => ?_, ?_, j5, ?_, ?_, ?_⟩
        · simp only [List.mem_cons, List.not_mem_nil, or_false, not_or] at hi
          rw [j2 i (by simp [hi])]
        · rw [j3 7 (by decide)]
        · simp only [List.mem_cons, List.not_mem_nil, or_false, not_or] at hi
          rw [j2 i (by simp [hi])]
        · rw [j3 7 (by decide)]
        · exact (j2 29 (by decide)).trans (rfl)
        · exact congrFun ((j2 17 (by decide)).trans (rfl)) 3
        · exact (j2 30 (by decide)).trans (rfl))⟩)
    · show Run Θ Γ 15 [(0, .ref (Th.r Θ 0)), (1, .int (I 1))] [] σ
      refine R_aload_n hB (j := 0) dX7_wipe_15 rfl rfl ?_
      refine R_getr hB (22) fl_X7_9 dX7_wipe_16 rfl rfl ?_
      refine R_iload_n hB (j := 1) dX7_wipe_19 rfl rfl ?_
      refine R_aald hB (17) rfl (by decide) (by omega) rfl dX7_wipe_20 ?_
      refine R_geti hB fl_X7_93 dX7_wipe_21 rfl ?_
      refine R_istore_n hB (L' := [_, _, _]) dX7_wipe_24 rfl (Nat.le_of_ble_eq_true rfl) rfl ?_
      refine R_aload_n hB (j := 1) dX7_wipe_25 rfl rfl ?_
      refine R_iload_n hB (j := 2) dX7_wipe_26 rfl rfl ?_
      refine R_iconst hB dX7_wipe_27 ?_
      refine R_cV1 hB (s_resize_1 0 (by omega) h.1) mv_X7_100 rfl rfl (by decide) dX7_wipe_28 rfl rfl (Nat.le_of_ble_eq_true rfl) (fun z28 σ2 h28 => ?_)
      refine R_pop hB dX7_wipe_31 rfl ?_
      refine R_iload_n hB (j := 0) dX7_wipe_32 rfl rfl ?_
      exact R_iret hB hE rfl dX7_wipe_33 (Or.inr ⟨hy, rfl, (by
        obtain ⟨j1, j2, j4, j5, j6, j7⟩ := h28
        refine ⟨h.tx1 j6 j7 (fun i hi => ?_), fun i hi => ?_, ?_, j5, ?_, ?_, ?_⟩
        · simp only [List.mem_cons, List.not_mem_nil, or_false, not_or] at hi
          rw [j2 i (by simp [hi])]
        · simp only [List.mem_cons, List.not_mem_nil, or_false, not_or] at hi
          rw [j2 i (by simp [hi])]
        · rw [j2 0 (by decide)]
        · exact (j2 30 (by decide)).trans (rfl)
        · exact congrFun ((j2 16 (by decide)).trans (rfl)) 3
        · exact (j2 29 (by decide)).trans (rfl))⟩)
  · have hno : ¬ (0 ≤ text ∧ text < 2) := by split at h6 <;> omega
    refine R_bipush hB dX7_wipe_12 rfl ?_
    exact R_iret hB hE rfl dX7_wipe_14 (Or.inl ⟨hno, rfl, rfl⟩)

theorem s_undo {Θ : Th} {σ : Mem} (text : Int) (ht : rng text) (h : InvC σ) : Spc Θ M_X7_undo 1 [.ref (Th.r Θ 0), .int (I text)] σ (fun r σ' => (¬ (0 ≤ text ∧ text < 2) ∧ r = -2 ∧ σ' = σ) ∨ ((0 ≤ text ∧ text < 2) ∧ σ (16 + text.toNat) 3 = 0 ∧ r = -3 ∧ σ' = σ) ∨ ((0 ≤ text ∧ text < 2) ∧ 0 < σ (16 + text.toNat) 3 ∧ r = σ (16 + text.toNat) 3 - 1 ∧ TextQ σ σ' text.toNat (σ (16 + text.toNat) 3 - 1) (σ (29 + text.toNat)))) := by
  refine Spc_of (by decide +kernel) (Nat.le_of_ble_eq_true rfl) (fun Γ hB hE => ?_)
  show Run Θ Γ 0 [(0, .ref (Th.r Θ 0)), (1, .int (I text))] [] σ
  have hx0 := h.1.1.1
  have hx1 := h.1.1.2
  refine R_iload_n hB (j := 1) dX7_undo_0 rfl rfl ?_
  refine R_aload_n hB (j := 0) dX7_undo_1 rfl rfl ?_
  refine R_getr hB (22) fl_X7_9 dX7_undo_2 rfl rfl ?_
  refine R_alen hB (z := 2) rfl (by decide) rfl dX7_undo_5 ?_
  refine P_cS1 hB (s_within _ _ (by omega) (by omega)) ms_X7_89 (by decide) dX7_undo_6 rfl rfl (Nat.le_of_ble_eq_true rfl) (fun z6 h6 => ?_)
  refine R_if_ne hB 15 (by rw [h6]; split <;> omega) dX7_undo_9 rfl (fun h9 => ?_) (fun h9 => ?_)
  · have hy : 0 ≤ text ∧ text < 2 := by split at h6 <;> omega
    rcases (show text = 0 ∨ text = 1 by omega) with rfl | rfl
    · show Run Θ Γ 15 [(0, .ref (Th.r Θ 0)), (1, .int (I 0))] [] σ
      refine R_aload_n hB (j := 0) dX7_undo_15 rfl rfl ?_
      refine R_getr hB (22) fl_X7_9 dX7_undo_16 rfl rfl ?_
      refine R_iload_n hB (j := 1) dX7_undo_19 rfl rfl ?_
      refine R_aald hB (16) rfl (by decide) (by omega) rfl dX7_undo_20 ?_
      refine R_geti hB fl_X7_93 dX7_undo_21 rfl ?_
      refine R_istore_n hB (L' := [_, _, _]) dX7_undo_24 rfl (Nat.le_of_ble_eq_true rfl) rfl ?_
      refine R_iload_n hB (j := 0) dX7_undo_25 rfl rfl ?_
      refine R_if_ne hB 34 (by omega) dX7_undo_26 rfl (fun h26 => ?_) (fun h26 => ?_)
      · refine R_aload_n hB (j := 1) dX7_undo_34 rfl rfl ?_
        refine R_iload_n hB (j := 2) dX7_undo_35 rfl rfl ?_
        refine R_iload_n hB (j := 0) dX7_undo_36 rfl rfl ?_
        refine R_iconst hB dX7_undo_37 ?_
        refine R_isub hB dX7_undo_38 ?_
        refine R_cV1 hB (s_resize_0 _ (by omega) h.1) mv_X7_100 rfl rfl (by decide) dX7_undo_39 rfl rfl (Nat.le_of_ble_eq_true rfl) (fun z39 σ2 h39 => ?_)
        exact R_iret hB hE rfl dX7_undo_42 (Or.inr (Or.inr ⟨hy, (by show 0 < σ 16 3; omega), h39.1, (by
          obtain ⟨j1, j2, j3, j4, j5, j6, j7⟩ := h39
          refine ⟨h.tx0 j6 j7 (fun i hi => ?_) ?_, fun i hi => ?_, ?_, j5, ?_, ?_, ?_⟩
          · simp only [List.mem_cons, List.not_mem_nil, or_false, not_or] at hi
            rw [j2 i (by simp [hi])]
          · rw [j3 7 (by decide)]
          · simp only [List.mem_cons, List.not_mem_nil, or_false, not_or] at hi
            rw [j2 i (by simp [hi])]
          · rw [j3 7 (by decide)]
          · exact (j2 29 (by decide)).trans (rfl)
          · exact congrFun ((j2 17 (by decide)).trans (rfl)) 3
          · exact (j2 30 (by decide)).trans (rfl))⟩))
      · refine R_bipush hB dX7_undo_29 rfl ?_
        refine R_goto hB 42 dX7_undo_31 rfl ?_
        exact R_iret hB hE rfl dX7_undo_42 (Or.inr (Or.inl ⟨hy, h26, rfl, rfl⟩))
    · show Run Θ Γ 15 [(0, .ref (Th.r Θ 0)), (1, .int (I 1))] [] σ
      refine R_aload_n hB (j := 0) dX7_undo_15 rfl rfl ?_
      refine R_getr hB (22) fl_X7_9 dX7_undo_16 rfl rfl ?_
      refine R_iload_n hB (j := 1) dX7_undo_19 rfl rfl ?_
      refine R_aald hB (17) rfl (by decide) (by omega) rfl dX7_undo_20 ?_
      refine R_geti hB fl_X7_93 dX7_undo_21 rfl ?_
      refine R_istore_n hB (L' := [_, _, _]) dX7_undo_24 rfl (Nat.le_of_ble_eq_true rfl) rfl ?_
      refine R_iload_n hB (j := 0) dX7_undo_25 rfl rfl ?_
      refine R_if_ne hB 34 (by omega) dX7_undo_26 rfl (fun h26 => ?_) (fun h26 => ?_)
      · refine R_aload_n hB (j := 1) dX7_undo_34 rfl rfl ?_
        refine R_iload_n hB (j := 2) dX7_undo_35 rfl rfl ?_
        refine R_iload_n hB (j := 0) dX7_undo_36 rfl rfl ?_
        refine R_iconst hB dX7_undo_37 ?_
        refine R_isub hB dX7_undo_38 ?_
        refine R_cV1 hB (s_resize_1 _ (by omega) h.1) mv_X7_100 rfl rfl (by decide) dX7_undo_39 rfl rfl (Nat.le_of_ble_eq_true rfl) (fun z39 σ2 h39 => ?_)
        exact R_iret hB hE rfl dX7_undo_42 (Or.inr (Or.inr ⟨hy, (by show 0 < σ 17 3; omega), h39.1, (by
          obtain ⟨j1, j2, j4, j5, j6, j7⟩ := h39
          refine ⟨h.tx1 j6 j7 (fun i hi => ?_), fun i hi => ?_, ?_, j5, ?_, ?_, ?_⟩
          · simp only [List.mem_cons, List.not_mem_nil, or_false, not_or] at hi
            rw [j2 i (by simp [hi])]
          · simp only [List.mem_cons, List.not_mem_nil, or_false, not_or] at hi
            rw [j2 i (by simp [hi])]
          · rw [j2 0 (by decide)]
          · exact (j2 30 (by decide)).trans (rfl)
          · exact congrFun ((j2 16 (by decide)).trans (rfl)) 3
          · exact (j2 29 (by decide)).trans (rfl))⟩))
      · refine R_bipush hB dX7_undo_29 rfl ?_
        refine R_goto hB 42 dX7_undo_31 rfl ?_
        exact R_iret hB hE rfl dX7_undo_42 (Or.inr (Or.inl ⟨hy, h26, rfl, rfl⟩))
  · have hno : ¬ (0 ≤ text ∧ text < 2) := by split at h6 <;> omega
    refine R_bipush hB dX7_undo_12 rfl ?_
    exact R_iret hB hE rfl dX7_undo_14 (Or.inl ⟨hno, rfl, rfl⟩)

theorem s_fault {Θ : Th} {σ : Mem} (text : Int) (ht : rng text) (h : InvC σ) : Spc Θ M_X7_fault 1 [.ref (Th.r Θ 0), .int (I text)] σ (Pu σ (fun r => if 0 ≤ text ∧ text < 2 then FFz text.toNat (σ (29 + text.toNat)) (σ (16 + text.toNat) 3) r else r = -2)) := by
  refine Spc_of (by decide +kernel) (Nat.le_of_ble_eq_true rfl) (fun Γ hB hE => ?_)
  show Run Θ Γ 0 [(0, .ref (Th.r Θ 0)), (1, .int (I text))] [] σ
  have hx0 := h.1.1.1
  have hx1 := h.1.1.2
  refine R_iload_n hB (j := 1) dX7_fault_0 rfl rfl ?_
  refine R_aload_n hB (j := 0) dX7_fault_1 rfl rfl ?_
  refine R_getr hB (22) fl_X7_9 dX7_fault_2 rfl rfl ?_
  refine R_alen hB (z := 2) rfl (by decide) rfl dX7_fault_5 ?_
  refine P_cS1 hB (s_within _ _ (by omega) (by omega)) ms_X7_89 (by decide) dX7_fault_6 rfl rfl (Nat.le_of_ble_eq_true rfl) (fun z6 h6 => ?_)
  refine R_if_eq hB 24 (by rw [h6]; split <;> omega) dX7_fault_9 rfl (fun h9 => ?_) (fun h9 => ?_)
  · have hno : ¬ (0 ≤ text ∧ text < 2) := by split at h6 <;> omega
    refine R_bipush hB dX7_fault_24 rfl ?_
    exact R_iret hB hE rfl dX7_fault_26 (⟨rfl, by dsimp only; rw [if_neg hno]⟩)
  · have hy : 0 ≤ text ∧ text < 2 := by split at h6 <;> omega
    rcases (show text = 0 ∨ text = 1 by omega) with rfl | rfl
    · show Run Θ Γ 12 [(0, .ref (Th.r Θ 0)), (1, .int (I 0))] [] σ
      refine R_aload_n hB (j := 0) dX7_fault_12 rfl rfl ?_
      refine R_getr hB (22) fl_X7_9 dX7_fault_13 rfl rfl ?_
      refine R_iload_n hB (j := 1) dX7_fault_16 rfl rfl ?_
      refine R_aald hB (16) rfl (by decide) (by omega) rfl dX7_fault_17 ?_
      refine P_cV1 hB (s_firstFault_0 hx0 h.1.2.1.1 h.1.2.2.1) mv_X7_104 rfl rfl (by decide) dX7_fault_18 rfl rfl (Nat.le_of_ble_eq_true rfl) (fun z18 h18 => ?_)
      refine R_goto hB 26 dX7_fault_21 rfl ?_
      exact R_iret hB hE rfl dX7_fault_26 (⟨rfl, by dsimp only; rw [if_pos hy]; exact h18⟩)
    · show Run Θ Γ 12 [(0, .ref (Th.r Θ 0)), (1, .int (I 1))] [] σ
      refine R_aload_n hB (j := 0) dX7_fault_12 rfl rfl ?_
      refine R_getr hB (22) fl_X7_9 dX7_fault_13 rfl rfl ?_
      refine R_iload_n hB (j := 1) dX7_fault_16 rfl rfl ?_
      refine R_aald hB (17) rfl (by decide) (by omega) rfl dX7_fault_17 ?_
      refine P_cV1 hB (s_firstFault_1 hx1 h.1.2.1.2 h.1.2.2.2) mv_X7_104 rfl rfl (by decide) dX7_fault_18 rfl rfl (Nat.le_of_ble_eq_true rfl) (fun z18 h18 => ?_)
      refine R_goto hB 26 dX7_fault_21 rfl ?_
      exact R_iret hB hE rfl dX7_fault_26 (⟨rfl, by dsimp only; rw [if_pos hy]; exact h18⟩)

theorem s_sleeper {Θ : Th} {σ : Mem} (s w : Int) (hs : rng s) (hw : rng w) (h : InvC σ) : Spc Θ M_X7_sleeper 1 [.ref (Th.r Θ 0), .int (I s), .int (I w)] σ (Pu σ (fun r => r = if (0 ≤ s ∧ s < σ 0 2) ∧ (0 ≤ w ∧ w < 4) then σ (8 + s.toNat) w else -2)) := by
  refine Spc_of (by decide +kernel) (Nat.le_of_ble_eq_true rfl) (fun Γ hB hE => ?_)
  show Run Θ Γ 0 [(0, .ref (Th.r Θ 0)), (1, .int (I s)), (2, .int (I w))] [] σ
  have hns := h.ns
  refine R_iload_n hB (j := 1) dX7_sleeper_0 rfl rfl ?_
  refine R_aload_n hB (j := 0) dX7_sleeper_1 rfl rfl ?_
  refine R_geti hB fl_X7_118 dX7_sleeper_2 rfl ?_
  refine P_cS1 hB (s_within _ _ (by omega) (by omega)) ms_X7_89 (by decide) dX7_sleeper_5 rfl rfl (Nat.le_of_ble_eq_true rfl) (fun z5 h5 => ?_)
  refine R_if_ne hB 14 (by rw [h5]; split <;> omega) dX7_sleeper_8 rfl (fun h8 => ?_) (fun h8 => ?_)
  · have hy : 0 ≤ s ∧ s < σ 0 2 := by split at h5 <;> omega
    refine R_iload_n hB (j := 2) dX7_sleeper_14 rfl rfl ?_
    rcases (show ((w) < 0 ∨ 3 < (w)) ∨ (w) = 0 ∨ (w) = 1 ∨ (w) = 2 ∨ (w) = 3 by omega) with h15 | h15 | h15 | h15 | h15
    · refine R_tsOut hB 84 (by omega) dX7_sleeper_15 h15 rfl ?_
      refine R_bipush hB dX7_sleeper_84 rfl ?_
      exact R_iret hB hE rfl dX7_sleeper_86 (⟨rfl, by rw [if_neg (by omega)]⟩)
    · refine R_tsIn hB 0 44 (by omega) h15 dX7_sleeper_15 (by decide) (by decide) rfl rfl ?_
      refine R_aload_n hB (j := 0) dX7_sleeper_44 rfl rfl ?_
      refine R_getr hB (23) fl_X7_17 dX7_sleeper_45 rfl rfl ?_
      refine R_iload_n hB (j := 1) dX7_sleeper_48 rfl rfl ?_
      refine R_aald hB (8 + (s).toNat) rfl (by decide) (by omega) rfl dX7_sleeper_49 ?_
      refine R_geti hB fl_X7_124 dX7_sleeper_50 (cls_bed (by omega)) ?_
      exact R_iret hB hE rfl dX7_sleeper_53 (⟨rfl, by rw [if_pos (by omega), h15]⟩)
    · refine R_tsIn hB 1 54 (by omega) h15 dX7_sleeper_15 (by decide) (by decide) rfl rfl ?_
      refine R_aload_n hB (j := 0) dX7_sleeper_54 rfl rfl ?_
      refine R_getr hB (23) fl_X7_17 dX7_sleeper_55 rfl rfl ?_
      refine R_iload_n hB (j := 1) dX7_sleeper_58 rfl rfl ?_
      refine R_aald hB (8 + (s).toNat) rfl (by decide) (by omega) rfl dX7_sleeper_59 ?_
      refine R_geti hB fl_X7_127 dX7_sleeper_60 (cls_bed (by omega)) ?_
      exact R_iret hB hE rfl dX7_sleeper_63 (⟨rfl, by rw [if_pos (by omega), h15]⟩)
    · refine R_tsIn hB 2 64 (by omega) h15 dX7_sleeper_15 (by decide) (by decide) rfl rfl ?_
      refine R_aload_n hB (j := 0) dX7_sleeper_64 rfl rfl ?_
      refine R_getr hB (23) fl_X7_17 dX7_sleeper_65 rfl rfl ?_
      refine R_iload_n hB (j := 1) dX7_sleeper_68 rfl rfl ?_
      refine R_aald hB (8 + (s).toNat) rfl (by decide) (by omega) rfl dX7_sleeper_69 ?_
      refine R_geti hB fl_X7_130 dX7_sleeper_70 (cls_bed (by omega)) ?_
      exact R_iret hB hE rfl dX7_sleeper_73 (⟨rfl, by rw [if_pos (by omega), h15]⟩)
    · refine R_tsIn hB 3 74 (by omega) h15 dX7_sleeper_15 (by decide) (by decide) rfl rfl ?_
      refine R_aload_n hB (j := 0) dX7_sleeper_74 rfl rfl ?_
      refine R_getr hB (23) fl_X7_17 dX7_sleeper_75 rfl rfl ?_
      refine R_iload_n hB (j := 1) dX7_sleeper_78 rfl rfl ?_
      refine R_aald hB (8 + (s).toNat) rfl (by decide) (by omega) rfl dX7_sleeper_79 ?_
      refine R_geti hB fl_X7_137 dX7_sleeper_80 (cls_bed (by omega)) ?_
      exact R_iret hB hE rfl dX7_sleeper_83 (⟨rfl, by rw [if_pos (by omega), h15]⟩)
  · have hno : ¬ (0 ≤ s ∧ s < σ 0 2) := by split at h5 <;> omega
    refine R_bipush hB dX7_sleeper_11 rfl ?_
    exact R_iret hB hE rfl dX7_sleeper_13 (⟨rfl, by rw [if_neg (fun q => hno q.1)]⟩)

theorem s_deed {Θ : Th} {σ : Mem} (d w : Int) (hd : rng d) (hw : rng w) (h : InvC σ) : Spc Θ M_X7_deed 1 [.ref (Th.r Θ 0), .int (I d), .int (I w)] σ (Pu σ (fun r => r = if (0 ≤ d ∧ d < σ 2 4) ∧ (0 ≤ w ∧ w < 3) then (if w = 0 then σ 33 d else if w = 1 then σ 34 d else σ 35 d) else -2)) := by
  refine Spc_of (by decide +kernel) (Nat.le_of_ble_eq_true rfl) (fun Γ hB hE => ?_)
  show Run Θ Γ 0 [(0, .ref (Th.r Θ 0)), (1, .int (I d)), (2, .int (I w))] [] σ
  have hn := h.row.1
  refine R_iload_n hB (j := 1) dX7_deed_0 rfl rfl ?_
  refine R_aload_n hB (j := 0) dX7_deed_1 rfl rfl ?_
  refine R_getr hB (2) fl_X7_24 dX7_deed_2 rfl rfl ?_
  refine R_geti hB fl_X7_140 dX7_deed_5 rfl ?_
  refine P_cS1 hB (s_within _ _ (by omega) (by omega)) ms_X7_89 (by decide) dX7_deed_8 rfl rfl (Nat.le_of_ble_eq_true rfl) (fun z8 h8 => ?_)
  refine R_if_ne hB 17 (by rw [h8]; split <;> omega) dX7_deed_11 rfl (fun h11 => ?_) (fun h11 => ?_)
  · have hy : 0 ≤ d ∧ d < σ 2 4 := by split at h8 <;> omega
    refine R_iload_n hB (j := 2) dX7_deed_17 rfl rfl ?_
    rcases (show ((w) < 0 ∨ 2 < (w)) ∨ (w) = 0 ∨ (w) = 1 ∨ (w) = 2 by omega) with h18 | h18 | h18 | h18
    · refine R_tsOut hB 74 (by omega) dX7_deed_18 h18 rfl ?_
      refine R_bipush hB dX7_deed_74 rfl ?_
      exact R_iret hB hE rfl dX7_deed_76 (⟨rfl, by rw [if_neg (by omega)]⟩)
    · refine R_tsIn hB 0 44 (by omega) h18 dX7_deed_18 (by decide) (by decide) rfl rfl ?_
      refine R_aload_n hB (j := 0) dX7_deed_44 rfl rfl ?_
      refine R_getr hB (2) fl_X7_24 dX7_deed_45 rfl rfl ?_
      refine R_getr hB (33) fl_X7_145 dX7_deed_48 rfl rfl ?_
      refine R_iload_n hB (j := 1) dX7_deed_51 rfl rfl ?_
      refine R_iald hB rfl (by omega) dX7_deed_52 ?_
      exact R_iret hB hE rfl dX7_deed_53 (⟨rfl, by rw [if_pos (by omega), h18]; rfl⟩)
    · refine R_tsIn hB 1 54 (by omega) h18 dX7_deed_18 (by decide) (by decide) rfl rfl ?_
      refine R_aload_n hB (j := 0) dX7_deed_54 rfl rfl ?_
      refine R_getr hB (2) fl_X7_24 dX7_deed_55 rfl rfl ?_
      refine R_getr hB (34) fl_X7_148 dX7_deed_58 rfl rfl ?_
      refine R_iload_n hB (j := 1) dX7_deed_61 rfl rfl ?_
      refine R_iald hB rfl (by omega) dX7_deed_62 ?_
      exact R_iret hB hE rfl dX7_deed_63 (⟨rfl, by rw [if_pos (by omega), h18]; rfl⟩)
    · refine R_tsIn hB 2 64 (by omega) h18 dX7_deed_18 (by decide) (by decide) rfl rfl ?_
      refine R_aload_n hB (j := 0) dX7_deed_64 rfl rfl ?_
      refine R_getr hB (2) fl_X7_24 dX7_deed_65 rfl rfl ?_
      refine R_getr hB (35) fl_X7_150 dX7_deed_68 rfl rfl ?_
      refine R_iload_n hB (j := 1) dX7_deed_71 rfl rfl ?_
      refine R_iald hB rfl (by omega) dX7_deed_72 ?_
      exact R_iret hB hE rfl dX7_deed_73 (⟨rfl, by rw [if_pos (by omega), h18]; rfl⟩)
  · have hno : ¬ (0 ≤ d ∧ d < σ 2 4) := by split at h8 <;> omega
    refine R_bipush hB dX7_deed_14 rfl ?_
    exact R_iret hB hE rfl dX7_deed_16 (⟨rfl, by rw [if_neg (fun q => hno q.1)]⟩)

theorem s_law {Θ : Th} {σ : Mem} (w v : Int) (hw : rng w) (hv : rng v) (h : InvC σ) : Spc Θ M_X7_law 1 [.ref (Th.r Θ 0), .int (I w), .int (I v)] σ (fun r σ' => (¬ ((0 ≤ w ∧ w < 3) ∧ (sv 2 w ≤ v ∧ v ≤ sv 3 w)) ∧ r = -2 ∧ σ' = σ) ∨ (((0 ≤ w ∧ w < 3) ∧ (sv 2 w ≤ v ∧ v ≤ sv 3 w)) ∧ r = σ 25 w ∧ σ' = up σ 25 w v ∧ InvC σ')) := by
  refine Spc_of (by decide +kernel) (Nat.le_of_ble_eq_true rfl) (fun Γ hB hE => ?_)
  show Run Θ Γ 0 [(0, .ref (Th.r Θ 0)), (1, .int (I w)), (2, .int (I v))] [] σ
  refine R_iload_n hB (j := 1) dX7_law_0 rfl rfl ?_
  refine R_aload_n hB (j := 0) dX7_law_1 rfl rfl ?_
  refine R_getr hB (25) fl_X7_28 dX7_law_2 rfl rfl ?_
  refine R_alen hB (z := 3) rfl (by decide) rfl dX7_law_5 ?_
  refine P_cS1 hB (s_within _ _ (by omega) (by omega)) ms_X7_89 (by decide) dX7_law_6 rfl rfl (Nat.le_of_ble_eq_true rfl) (fun z6 h6 => ?_)
  refine R_if_eq hB 30 (by rw [h6]; split <;> omega) dX7_law_9 rfl (fun h9 => ?_) (fun h9 => ?_)
  · have hno : ¬ ((0 ≤ w ∧ w < 3) ∧ (sv 2 w ≤ v ∧ v ≤ sv 3 w)) := by split at h6 <;> omega
    refine R_bipush hB dX7_law_30 rfl ?_
    exact R_iret hB hE rfl dX7_law_32 (Or.inl ⟨hno, rfl, rfl⟩)
  · have hy : 0 ≤ w ∧ w < 3 := by split at h6 <;> omega
    have hlo : (0 ≤ sv 2 w ∧ sv 2 w ≤ 1) ∧ (8 ≤ sv 3 w ∧ sv 3 w ≤ 9) := by
      rcases (show w = 0 ∨ w = 1 ∨ w = 2 by omega) with rfl | rfl | rfl <;> decide
    refine R_iload_n hB (j := 2) dX7_law_12 rfl rfl ?_
    refine R_gets hB fs_X7_153 dX7_law_13 ?_
    refine R_iload_n hB (j := 1) dX7_law_16 rfl rfl ?_
    refine N_tald hB (n := 3) (by decide) rfl (by omega) dX7_law_17 ?_
    refine R_icmp_lt hB 30 (by omega) (by omega) dX7_law_18 rfl (fun h18 => ?_) (fun h18 => ?_)
    · have hno : ¬ ((0 ≤ w ∧ w < 3) ∧ (sv 2 w ≤ v ∧ v ≤ sv 3 w)) := by omega
      refine R_bipush hB dX7_law_30 rfl ?_
      exact R_iret hB hE rfl dX7_law_32 (Or.inl ⟨hno, rfl, rfl⟩)
    · refine R_iload_n hB (j := 2) dX7_law_21 rfl rfl ?_
      refine R_gets hB fs_X7_156 dX7_law_22 ?_
      refine R_iload_n hB (j := 1) dX7_law_25 rfl rfl ?_
      refine N_tald hB (n := 3) (by decide) rfl (by omega) dX7_law_26 ?_
      refine R_icmp_le hB 33 (by omega) (by omega) dX7_law_27 rfl (fun h27 => ?_) (fun h27 => ?_)
      · refine R_aload_n hB (j := 0) dX7_law_33 rfl rfl ?_
        refine R_getr hB (25) fl_X7_28 dX7_law_34 rfl rfl ?_
        refine R_iload_n hB (j := 1) dX7_law_37 rfl rfl ?_
        refine R_iald hB rfl (by omega) dX7_law_38 ?_
        refine R_istore_n hB (L' := [_, _, _, _]) dX7_law_39 rfl (Nat.le_of_ble_eq_true rfl) rfl ?_
        refine R_aload_n hB (j := 1) dX7_law_40 rfl rfl ?_
        refine R_getr hB (25) fl_X7_28 dX7_law_41 rfl rfl ?_
        refine R_iload_n hB (j := 2) dX7_law_44 rfl rfl ?_
        refine R_iload_n hB (j := 3) dX7_law_45 rfl rfl ?_
        refine N_iast hB rfl (by omega) (by omega) dX7_law_46 (fun σ1 e1 => ?_)
        refine R_iload_n hB (j := 0) dX7_law_47 rfl rfl ?_
        exact R_iret hB hE rfl dX7_law_48 (Or.inr ⟨⟨hy, by omega, by omega⟩, rfl, e1, by
          have r : ∀ i, i ≠ 25 → σ1 i = σ i := fun i hi => by rw [e1]; exact up_row hi
          obtain ⟨a1, ⟨f, b1, b2, b3⟩, ⟨g, c1, c2, c3, c4⟩, a4, a5, a6, a7⟩ := h
          refine ⟨?_, ⟨f, ?_, ?_, ?_⟩, ⟨g, ?_, ?_, ?_, ?_⟩, ?_, ?_, ?_, ?_⟩
          · rw [TxOK, r 16 (by decide), r 17 (by decide), r 29 (by decide), r 30 (by decide), r 31 (by decide), r 32 (by decide)]; exact a1
          · rw [r 29 (by decide), r 16 (by decide)]; exact b1
          · rw [r 0 (by decide), r 16 (by decide)]; exact b2
          · intro s hs
            have hn := unP_in (t := 0) (b := σ 29) (f := f) a1.1.1
            rw [r 0 (by decide), b2] at hs
            rw [r (8 + s) (by omega), r 29 (by decide)]; exact b3 s (by omega)
          · rw [r 30 (by decide), r 17 (by decide)]; exact c1
          · rw [r 2 (by decide), r 17 (by decide)]; exact c2
          · rw [r 33 (by decide), r 34 (by decide), r 35 (by decide), r 36 (by decide), r 2 (by decide)]; exact c3
          · intro d q1 q2
            rw [r 2 (by decide)] at q2
            rw [r 33 (by decide), r 34 (by decide), r 35 (by decide), r 30 (by decide)]; exact c4 d q1 q2
          · obtain ⟨u1, u2, u3⟩ := a4
            rw [e1]
            rcases (show w = 0 ∨ w = 1 ∨ w = 2 by omega) with rfl | rfl | rfl
            · have x1 : sv 2 0 = 0 := rfl
              have x2 : sv 3 0 = 9 := rfl
              refine ⟨?_, ?_, ?_⟩ <;> simp only [up] <;> simp <;> omega
            · have x1 : sv 2 1 = 0 := rfl
              have x2 : sv 3 1 = 9 := rfl
              refine ⟨?_, ?_, ?_⟩ <;> simp only [up] <;> simp <;> omega
            · have x1 : sv 2 2 = 1 := rfl
              have x2 : sv 3 2 = 8 := rfl
              refine ⟨?_, ?_, ?_⟩ <;> simp only [up] <;> simp <;> omega
          · rw [TlOK, r 4 (by decide), r 41 (by decide), r 42 (by decide), r 43 (by decide)]; exact a5
          · intro s hs
            rw [r (18 + s) (by omega)]; exact a6 s hs
          · rw [r 0 (by decide)]; exact a7⟩)
      · have hno : ¬ ((0 ≤ w ∧ w < 3) ∧ (sv 2 w ≤ v ∧ v ≤ sv 3 w)) := by omega
        refine R_bipush hB dX7_law_30 rfl ?_
        exact R_iret hB hE rfl dX7_law_32 (Or.inl ⟨hno, rfl, rfl⟩)
