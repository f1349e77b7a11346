theorem s_mtype {Θ : Th} {σ : Mem} (t b : Int) (ht : rng t) (hbr : rng b) (h : MtOK σ) : Spc Θ M_X8_type 1 [.ref (Th.r Θ 1), .int (I t), .int (I b)] σ (fun r σ' => (¬ ((0 ≤ t ∧ t < 2) ∧ (0 ≤ b ∧ b < 256)) ∧ r = -2 ∧ σ' = σ) ∨ (((0 ≤ t ∧ t < 2) ∧ (0 ≤ b ∧ b < 256)) ∧ σ 53 t = 39 ∧ r = -4 ∧ σ' = σ) ∨ (((0 ≤ t ∧ t < 2) ∧ (0 ≤ b ∧ b < 256)) ∧ σ 53 t ≠ 39 ∧ r = σ 53 t + 1 ∧ σ' = up (up σ 54 (39 * t + σ 53 t) b) 53 t (σ 53 t + 1))) := by
  refine Spc_of (by decide +kernel) (Nat.le_of_ble_eq_true rfl) (fun Γ hB hE => ?_)
  show Run Θ Γ 0 [(0, .ref (Th.r Θ 1)), (1, .int (I t)), (2, .int (I b))] [] σ
  refine R_iload_n hB (j := 1) dX8_type_0 rfl rfl ?_
  refine P_cS1 hB (s_misText _ (by omega)) ms_X8_102 (by decide) dX8_type_1 rfl rfl (Nat.le_of_ble_eq_true rfl) (fun z1 h1 => ?_)
  refine R_if_eq hB 18 (by rw [h1]; split <;> omega) dX8_type_4 rfl (fun h4 => ?_) (fun h4 => ?_)
  · have hc : ¬ ((0 ≤ t ∧ t < 2)) := fun q => by
      rw [if_pos q] at h1
      omega
    refine R_bipush hB dX8_type_18 rfl ?_
    exact R_iret hB hE rfl dX8_type_20 (Or.inl ⟨by omega, rfl, rfl⟩)
  · have hc : (0 ≤ t ∧ t < 2) := by
      by_cases q : (0 ≤ t ∧ t < 2)
      · exact q
      · rw [if_neg q] at h1; omega
    refine R_iload_n hB (j := 2) dX8_type_7 rfl rfl ?_
    refine R_iconst hB dX8_type_8 ?_
    refine R_sipush hB dX8_type_9 rfl ?_
    refine P_cS1 hB (s_in _ _ _ (by omega) (by omega) (by omega)) ms_X8_98 (by decide) dX8_type_12 rfl rfl (Nat.le_of_ble_eq_true rfl) (fun z12 h12 => ?_)
    refine R_if_ne hB 21 (by rw [h12]; split <;> omega) dX8_type_15 rfl (fun h15 => ?_) (fun h15 => ?_)
    · have hd : 0 ≤ b ∧ b ≤ 255 := by
        by_cases q : 0 ≤ b ∧ b ≤ 255
        · exact q
        · rw [if_neg q] at h12; omega
      refine R_aload_n hB (j := 0) dX8_type_21 rfl rfl ?_
      have hty : 0 ≤ σ 53 t ∧ σ 53 t ≤ 39 := by
        rcases (show t = 0 ∨ t = 1 by omega) with rfl | rfl
        · exact h.1.1
        · exact h.1.2
      refine R_getr hB (53) fl_X8_7 dX8_type_22 rfl rfl ?_
      refine R_iload_n hB (j := 1) dX8_type_25 rfl rfl ?_
      refine R_iald hB rfl (by omega) dX8_type_26 ?_
      refine R_bipush hB dX8_type_27 rfl ?_
      refine R_icmp_ne hB 35 (by omega) (by omega) dX8_type_29 rfl (fun h29 => ?_) (fun h29 => ?_)
      · refine R_aload_n hB (j := 0) dX8_type_35 rfl rfl ?_
        refine R_getr hB (54) fl_X8_13 dX8_type_36 rfl rfl ?_
        refine R_bipush hB dX8_type_39 rfl ?_
        refine R_iload_n hB (j := 1) dX8_type_41 rfl rfl ?_
        refine R_imul hB dX8_type_42 ?_
        refine R_aload_n hB (j := 0) dX8_type_43 rfl rfl ?_
        refine R_getr hB (53) fl_X8_7 dX8_type_44 rfl rfl ?_
        refine R_iload_n hB (j := 1) dX8_type_47 rfl rfl ?_
        refine R_iald hB rfl (by omega) dX8_type_48 ?_
        refine R_iadd hB dX8_type_49 ?_
        refine R_iload_n hB (j := 2) dX8_type_50 rfl rfl ?_
        refine N_iast hB rfl (by omega) (by omega) dX8_type_51 (fun σ1 e1 => ?_)
        refine R_aload_n hB (j := 0) dX8_type_52 rfl rfl ?_
        refine R_getr hB (53) fl_X8_7 dX8_type_53 rfl rfl ?_
        refine R_iload_n hB (j := 1) dX8_type_56 rfl rfl ?_
        refine R_dup2 hB dX8_type_57 rfl rfl ?_
        have k53 : σ1 53 = σ 53 := by rw [e1, up_row (by decide)]
        refine R_iald hB rfl (by omega) dX8_type_58 ?_
        refine R_iconst hB dX8_type_59 ?_
        refine R_iadd hB dX8_type_60 ?_
        refine N_iast hB rfl (by omega) (by rw [k53]; omega) dX8_type_61 (fun σ2 e2 => ?_)
        refine R_aload_n hB (j := 0) dX8_type_62 rfl rfl ?_
        refine R_getr hB (53) fl_X8_7 dX8_type_63 rfl rfl ?_
        refine R_iload_n hB (j := 1) dX8_type_66 rfl rfl ?_
        refine R_iald hB rfl (by omega) dX8_type_67 ?_
        exact R_iret hB hE rfl dX8_type_68 (Or.inr (Or.inr ⟨by omega, h29, by rw [e2, up_s, k53], by rw [e2, k53, e1]⟩))
      · refine R_bipush hB dX8_type_32 rfl ?_
        exact R_iret hB hE rfl dX8_type_34 (Or.inr (Or.inl ⟨by omega, h29, rfl, rfl⟩))
    · have hd : ¬ (0 ≤ b ∧ b ≤ 255) := fun q => by
        rw [if_pos q] at h12
        omega
      refine R_bipush hB dX8_type_18 rfl ?_
      exact R_iret hB hE rfl dX8_type_20 (Or.inl ⟨by omega, rfl, rfl⟩)

theorem s_mwipe {Θ : Th} {σ : Mem} (t : Int) (ht : rng t) (h : MtOK σ) : Spc Θ M_X8_wipe 1 [.ref (Th.r Θ 1), .int (I t)] σ (fun r σ' => (¬ (0 ≤ t ∧ t < 2) ∧ r = -2 ∧ σ' = σ) ∨ ((0 ≤ t ∧ t < 2) ∧ r = σ 53 t ∧ σ' = up σ 53 t 0)) := by
  refine Spc_of (by decide +kernel) (Nat.le_of_ble_eq_true rfl) (fun Γ hB hE => ?_)
  show Run Θ Γ 0 [(0, .ref (Th.r Θ 1)), (1, .int (I t))] [] σ
  refine R_iload_n hB (j := 1) dX8_wipe_0 rfl rfl ?_
  refine P_cS1 hB (s_misText _ (by omega)) ms_X8_102 (by decide) dX8_wipe_1 rfl rfl (Nat.le_of_ble_eq_true rfl) (fun z1 h1 => ?_)
  refine R_if_ne hB 10 (by rw [h1]; split <;> omega) dX8_wipe_4 rfl (fun h4 => ?_) (fun h4 => ?_)
  · have hc : (0 ≤ t ∧ t < 2) := by
      by_cases q : (0 ≤ t ∧ t < 2)
      · exact q
      · rw [if_neg q] at h1; omega
    refine R_aload_n hB (j := 0) dX8_wipe_10 rfl rfl ?_
    refine R_getr hB (53) fl_X8_7 dX8_wipe_11 rfl rfl ?_
    refine R_iload_n hB (j := 1) dX8_wipe_14 rfl rfl ?_
    refine R_iald hB rfl (by omega) dX8_wipe_15 ?_
    refine R_istore_n hB (L' := [_, _, _]) dX8_wipe_16 rfl (Nat.le_of_ble_eq_true rfl) rfl ?_
    refine R_aload_n hB (j := 1) dX8_wipe_17 rfl rfl ?_
    refine R_getr hB (53) fl_X8_7 dX8_wipe_18 rfl rfl ?_
    refine R_iload_n hB (j := 2) dX8_wipe_21 rfl rfl ?_
    refine R_iconst hB dX8_wipe_22 ?_
    refine N_iast hB rfl (by omega) (by omega) dX8_wipe_23 (fun σ1 e1 => ?_)
    refine R_iload_n hB (j := 0) dX8_wipe_24 rfl rfl ?_
    exact R_iret hB hE rfl dX8_wipe_25 (Or.inr ⟨hc, rfl, e1⟩)
  · have hc : ¬ ((0 ≤ t ∧ t < 2)) := fun q => by
      rw [if_pos q] at h1
      omega
    refine R_bipush hB dX8_wipe_7 rfl ?_
    exact R_iret hB hE rfl dX8_wipe_9 (Or.inl ⟨hc, rfl, rfl⟩)

theorem s_mundo {Θ : Th} {σ : Mem} (t : Int) (ht : rng t) (h : MtOK σ) : Spc Θ M_X8_undo 1 [.ref (Th.r Θ 1), .int (I t)] σ (fun r σ' => (¬ (0 ≤ t ∧ t < 2) ∧ r = -2 ∧ σ' = σ) ∨ ((0 ≤ t ∧ t < 2) ∧ σ 53 t = 0 ∧ r = -3 ∧ σ' = σ) ∨ ((0 ≤ t ∧ t < 2) ∧ σ 53 t ≠ 0 ∧ r = σ 53 t - 1 ∧ σ' = up σ 53 t (σ 53 t - 1))) := by
  refine Spc_of (by decide +kernel) (Nat.le_of_ble_eq_true rfl) (fun Γ hB hE => ?_)
  show Run Θ Γ 0 [(0, .ref (Th.r Θ 1)), (1, .int (I t))] [] σ
  refine R_iload_n hB (j := 1) dX8_undo_0 rfl rfl ?_
  refine P_cS1 hB (s_misText _ (by omega)) ms_X8_102 (by decide) dX8_undo_1 rfl rfl (Nat.le_of_ble_eq_true rfl) (fun z1 h1 => ?_)
  refine R_if_ne hB 10 (by rw [h1]; split <;> omega) dX8_undo_4 rfl (fun h4 => ?_) (fun h4 => ?_)
  · have hc : (0 ≤ t ∧ t < 2) := by
      by_cases q : (0 ≤ t ∧ t < 2)
      · exact q
      · rw [if_neg q] at h1; omega
    refine R_aload_n hB (j := 0) dX8_undo_10 rfl rfl ?_
    have hty : 0 ≤ σ 53 t ∧ σ 53 t ≤ 39 := by
      rcases (show t = 0 ∨ t = 1 by omega) with rfl | rfl
      · exact h.1.1
      · exact h.1.2
    refine R_getr hB (53) fl_X8_7 dX8_undo_11 rfl rfl ?_
    refine R_iload_n hB (j := 1) dX8_undo_14 rfl rfl ?_
    refine R_iald hB rfl (by omega) dX8_undo_15 ?_
    refine R_if_ne hB 22 (by omega) dX8_undo_16 rfl (fun h16 => ?_) (fun h16 => ?_)
    · refine R_aload_n hB (j := 0) dX8_undo_22 rfl rfl ?_
      refine R_getr hB (53) fl_X8_7 dX8_undo_23 rfl rfl ?_
      refine R_iload_n hB (j := 1) dX8_undo_26 rfl rfl ?_
      refine R_dup2 hB dX8_undo_27 rfl rfl ?_
      refine R_iald hB rfl (by omega) dX8_undo_28 ?_
      refine R_iconst hB dX8_undo_29 ?_
      refine R_isub hB dX8_undo_30 ?_
      refine N_iast hB rfl (by omega) (by omega) dX8_undo_31 (fun σ1 e1 => ?_)
      refine R_aload_n hB (j := 0) dX8_undo_32 rfl rfl ?_
      refine R_getr hB (53) fl_X8_7 dX8_undo_33 rfl rfl ?_
      refine R_iload_n hB (j := 1) dX8_undo_36 rfl rfl ?_
      refine R_iald hB rfl (by omega) dX8_undo_37 ?_
      exact R_iret hB hE rfl dX8_undo_38 (Or.inr (Or.inr ⟨hc, h16, by rw [e1, up_s], e1⟩))
    · refine R_bipush hB dX8_undo_19 rfl ?_
      exact R_iret hB hE rfl dX8_undo_21 (Or.inr (Or.inl ⟨hc, h16, rfl, rfl⟩))
  · have hc : ¬ ((0 ≤ t ∧ t < 2)) := fun q => by
      rw [if_pos q] at h1
      omega
    refine R_bipush hB dX8_undo_7 rfl ?_
    exact R_iret hB hE rfl dX8_undo_9 (Or.inl ⟨hc, rfl, rfl⟩)

theorem s_sleeperOf {Θ : Th} {σ : Mem} (k w : Int) (hk : 0 ≤ k ∧ k < 9) (hw : rng w) : Spc Θ M_X8_sleeperOf 1 [.ref (Th.r Θ 1), .int (I k), .int (I w)] σ (Pu σ (fun z => z = mz σ k w)) := by
  refine Spc_of (by decide +kernel) (Nat.le_of_ble_eq_true rfl) (fun Γ hB hE => ?_)
  show Run Θ Γ 0 [(0, .ref (Th.r Θ 1)), (1, .int (I k)), (2, .int (I w))] [] σ
  refine R_iload_n hB (j := 2) dX8_sleeperOf_0 rfl rfl ?_
  refine R_if_ne hB 13 (by omega) dX8_sleeperOf_1 rfl (fun h1 => ?_) (fun h1 => ?_)
  · refine R_iload_n hB (j := 2) dX8_sleeperOf_13 rfl rfl ?_
    refine R_iconst hB dX8_sleeperOf_14 ?_
    refine R_icmp_ne hB 27 (by omega) (by omega) dX8_sleeperOf_15 rfl (fun h15 => ?_) (fun h15 => ?_)
    · refine R_iload_n hB (j := 2) dX8_sleeperOf_27 rfl rfl ?_
      refine R_iconst hB dX8_sleeperOf_28 ?_
      refine R_icmp_ne hB 41 (by omega) (by omega) dX8_sleeperOf_29 rfl (fun h29 => ?_) (fun h29 => ?_)
      · refine R_aload_n hB (j := 0) dX8_sleeperOf_41 rfl rfl ?_
        refine R_getr hB (58) fl_X8_25 dX8_sleeperOf_42 rfl rfl ?_
        refine R_iload_n hB (j := 1) dX8_sleeperOf_45 rfl rfl ?_
        refine R_iald hB rfl (by omega) dX8_sleeperOf_46 ?_
        exact R_iret hB hE rfl dX8_sleeperOf_47 (⟨rfl, by unfold mz; (repeat split) <;> first | rfl | (exfalso; omega)⟩)
      · refine R_aload_n hB (j := 0) dX8_sleeperOf_32 rfl rfl ?_
        refine R_getr hB (57) fl_X8_22 dX8_sleeperOf_33 rfl rfl ?_
        refine R_iload_n hB (j := 1) dX8_sleeperOf_36 rfl rfl ?_
        refine R_iald hB rfl (by omega) dX8_sleeperOf_37 ?_
        refine R_goto hB 47 dX8_sleeperOf_38 rfl ?_
        exact R_iret hB hE rfl dX8_sleeperOf_47 (⟨rfl, by unfold mz; (repeat split) <;> first | rfl | (exfalso; omega)⟩)
    · refine R_aload_n hB (j := 0) dX8_sleeperOf_18 rfl rfl ?_
      refine R_getr hB (56) fl_X8_19 dX8_sleeperOf_19 rfl rfl ?_
      refine R_iload_n hB (j := 1) dX8_sleeperOf_22 rfl rfl ?_
      refine R_iald hB rfl (by omega) dX8_sleeperOf_23 ?_
      refine R_goto hB 47 dX8_sleeperOf_24 rfl ?_
      exact R_iret hB hE rfl dX8_sleeperOf_47 (⟨rfl, by unfold mz; (repeat split) <;> first | rfl | (exfalso; omega)⟩)
  · refine R_aload_n hB (j := 0) dX8_sleeperOf_4 rfl rfl ?_
    refine R_getr hB (55) fl_X8_16 dX8_sleeperOf_5 rfl rfl ?_
    refine R_iload_n hB (j := 1) dX8_sleeperOf_8 rfl rfl ?_
    refine R_iald hB rfl (by omega) dX8_sleeperOf_9 ?_
    refine R_goto hB 47 dX8_sleeperOf_10 rfl ?_
    exact R_iret hB hE rfl dX8_sleeperOf_47 (⟨rfl, by unfold mz; (repeat split) <;> first | rfl | (exfalso; omega)⟩)

theorem s_deedOf {Θ : Th} {σ : Mem} (k w : Int) (hk : 0 ≤ k ∧ k < 9) (hw : rng w) : Spc Θ M_X8_deedOf 1 [.ref (Th.r Θ 1), .int (I k), .int (I w)] σ (Pu σ (fun z => z = if w = 0 then σ 59 k else if w = 1 then σ 60 k else σ 61 k)) := by
  refine Spc_of (by decide +kernel) (Nat.le_of_ble_eq_true rfl) (fun Γ hB hE => ?_)
  show Run Θ Γ 0 [(0, .ref (Th.r Θ 1)), (1, .int (I k)), (2, .int (I w))] [] σ
  refine R_iload_n hB (j := 2) dX8_deedOf_0 rfl rfl ?_
  refine R_if_ne hB 13 (by omega) dX8_deedOf_1 rfl (fun h1 => ?_) (fun h1 => ?_)
  · refine R_iload_n hB (j := 2) dX8_deedOf_13 rfl rfl ?_
    refine R_iconst hB dX8_deedOf_14 ?_
    refine R_icmp_ne hB 27 (by omega) (by omega) dX8_deedOf_15 rfl (fun h15 => ?_) (fun h15 => ?_)
    · refine R_aload_n hB (j := 0) dX8_deedOf_27 rfl rfl ?_
      refine R_getr hB (61) fl_X8_34 dX8_deedOf_28 rfl rfl ?_
      refine R_iload_n hB (j := 1) dX8_deedOf_31 rfl rfl ?_
      refine R_iald hB rfl (by omega) dX8_deedOf_32 ?_
      exact R_iret hB hE rfl dX8_deedOf_33 (⟨rfl, by (repeat split) <;> first | rfl | (exfalso; omega)⟩)
    · refine R_aload_n hB (j := 0) dX8_deedOf_18 rfl rfl ?_
      refine R_getr hB (60) fl_X8_31 dX8_deedOf_19 rfl rfl ?_
      refine R_iload_n hB (j := 1) dX8_deedOf_22 rfl rfl ?_
      refine R_iald hB rfl (by omega) dX8_deedOf_23 ?_
      refine R_goto hB 33 dX8_deedOf_24 rfl ?_
      exact R_iret hB hE rfl dX8_deedOf_33 (⟨rfl, by (repeat split) <;> first | rfl | (exfalso; omega)⟩)
  · refine R_aload_n hB (j := 0) dX8_deedOf_4 rfl rfl ?_
    refine R_getr hB (59) fl_X8_28 dX8_deedOf_5 rfl rfl ?_
    refine R_iload_n hB (j := 1) dX8_deedOf_8 rfl rfl ?_
    refine R_iald hB rfl (by omega) dX8_deedOf_9 ?_
    refine R_goto hB 33 dX8_deedOf_10 rfl ?_
    exact R_iret hB hE rfl dX8_deedOf_33 (⟨rfl, by (repeat split) <;> first | rfl | (exfalso; omega)⟩)

theorem s_msleeper {Θ : Th} {σ : Mem} (s w : Int) (hs : rng s) (hw : rng w) (h : InvC σ) (hR : Rel σ) : Spc Θ M_X8_sleeper 1 [.ref (Th.r Θ 1), .int (I s), .int (I w)] σ (fun r σ' => FrM σ σ' ∧ r = if (0 ≤ s ∧ s < σ 0 2) ∧ (0 ≤ w ∧ w < 4) then σ (8 + s.toNat) w else -2) := by
  refine Spc_of (by decide +kernel) (Nat.le_of_ble_eq_true rfl) (fun Γ hB hE => ?_)
  show Run Θ Γ 0 [(0, .ref (Th.r Θ 1)), (1, .int (I s)), (2, .int (I w))] [] σ
  refine R_aload_n hB (j := 0) dX8_sleeper_0 rfl rfl ?_
  refine R_iload_n hB (j := 1) dX8_sleeper_1 rfl rfl ?_
  refine R_cV1 hB (s_isSleeper _ hs h hR) mv_X8_136 rfl rfl (by decide) dX8_sleeper_2 rfl rfl (Nat.le_of_ble_eq_true rfl) (fun z2 σ1 h2 => ?_)
  obtain ⟨f1, f2, f3⟩ := h2
  have hns := h.ns
  refine R_if_eq hB 26 (by rw [f3]; split <;> omega) dX8_sleeper_5 rfl (fun h5 => ?_) (fun h5 => ?_)
  · have hc : ¬ (0 ≤ s ∧ s < σ 0 2) := fun q => by
      rw [if_pos q] at f3
      omega
    refine R_bipush hB dX8_sleeper_26 rfl ?_
    exact R_iret hB hE rfl dX8_sleeper_28 (by
      first
      | exact ⟨f1, by rw [if_pos (by omega)]; exact hv⟩
      | exact ⟨f1, by rw [if_neg (by omega)]⟩)
  · have hc : 0 ≤ s ∧ s < σ 0 2 := by
      by_cases q : 0 ≤ s ∧ s < σ 0 2
      · exact q
      · rw [if_neg q] at f3; omega
    refine R_iload_n hB (j := 2) dX8_sleeper_8 rfl rfl ?_
    refine R_iconst hB dX8_sleeper_9 ?_
    refine R_iconst hB dX8_sleeper_10 ?_
    refine P_cS1 hB (s_in _ _ _ (by omega) (by omega) (by omega)) ms_X8_98 (by decide) dX8_sleeper_11 rfl rfl (Nat.le_of_ble_eq_true rfl) (fun z11 h11 => ?_)
    refine R_if_eq hB 26 (by rw [h11]; split <;> omega) dX8_sleeper_14 rfl (fun h14 => ?_) (fun h14 => ?_)
    · have hd : ¬ (0 ≤ w ∧ w ≤ 3) := fun q => by
        rw [if_pos q] at h11
        omega
      refine R_bipush hB dX8_sleeper_26 rfl ?_
      exact R_iret hB hE rfl dX8_sleeper_28 (by
        first
        | exact ⟨f1, by rw [if_pos (by omega)]; exact hv⟩
        | exact ⟨f1, by rw [if_neg (by omega)]⟩)
    · have hd : 0 ≤ w ∧ w ≤ 3 := by
        by_cases q : 0 ≤ w ∧ w ≤ 3
        · exact q
        · rw [if_neg q] at h11; omega
      refine R_aload_n hB (j := 0) dX8_sleeper_17 rfl rfl ?_
      refine R_iload_n hB (j := 1) dX8_sleeper_18 rfl rfl ?_
      refine R_iload_n hB (j := 2) dX8_sleeper_19 rfl rfl ?_
      refine P_cV1 hB (s_sleeperOf _ _ (by omega) hw) mv_X8_139 rfl rfl (by decide) dX8_sleeper_20 rfl rfl (Nat.le_of_ble_eq_true rfl) (fun z20 h20 => ?_)
      have hv : z20 = σ (8 + s.toNat) w := by
        obtain ⟨n, rfl⟩ := Int.eq_ofNat_of_zero_le hc.1
        have hz := f2.z (s := n) (by rw [f1.1 0 (by decide)]; exact hc.2)
        rw [f1.1 (8 + n) (by simp; omega)] at hz
        rw [h20]
        rcases (show w = 0 ∨ w = 1 ∨ w = 2 ∨ w = 3 by omega) with rfl | rfl | rfl | rfl
        · exact hz.1
        · exact hz.2.1
        · exact hz.2.2.1
        · exact hz.2.2.2
      refine R_goto hB 28 dX8_sleeper_23 rfl ?_
      exact R_iret hB hE rfl dX8_sleeper_28 (by
        first
        | exact ⟨f1, by rw [if_pos (by omega)]; exact hv⟩
        | exact ⟨f1, by rw [if_neg (by omega)]⟩)

theorem s_mdeed {Θ : Th} {σ : Mem} (d w : Int) (hd0 : rng d) (hw : rng w) (h : InvC σ) (hR : Rel σ) : Spc Θ M_X8_deed 1 [.ref (Th.r Θ 1), .int (I d), .int (I w)] σ (fun r σ' => FrM σ σ' ∧ r = if (0 ≤ d ∧ d < σ 2 4) ∧ (0 ≤ w ∧ w < 3) then (if w = 0 then σ 33 d else if w = 1 then σ 34 d else σ 35 d) else -2) := by
  refine Spc_of (by decide +kernel) (Nat.le_of_ble_eq_true rfl) (fun Γ hB hE => ?_)
  show Run Θ Γ 0 [(0, .ref (Th.r Θ 1)), (1, .int (I d)), (2, .int (I w))] [] σ
  refine R_aload_n hB (j := 0) dX8_deed_0 rfl rfl ?_
  refine R_iload_n hB (j := 1) dX8_deed_1 rfl rfl ?_
  refine R_cV1 hB (s_isDeed _ hd0 h hR) mv_X8_142 rfl rfl (by decide) dX8_deed_2 rfl rfl (Nat.le_of_ble_eq_true rfl) (fun z2 σ1 h2 => ?_)
  obtain ⟨f1, f2, f3⟩ := h2
  have hns := h.row.1
  refine R_if_eq hB 26 (by rw [f3]; split <;> omega) dX8_deed_5 rfl (fun h5 => ?_) (fun h5 => ?_)
  · have hc : ¬ (0 ≤ d ∧ d < σ 2 4) := fun q => by
      rw [if_pos q] at f3
      omega
    refine R_bipush hB dX8_deed_26 rfl ?_
    exact R_iret hB hE rfl dX8_deed_28 (by
      first
      | exact ⟨f1, by rw [if_pos (by omega)]; exact hv⟩
      | exact ⟨f1, by rw [if_neg (by omega)]⟩)
  · have hc : 0 ≤ d ∧ d < σ 2 4 := by
      by_cases q : 0 ≤ d ∧ d < σ 2 4
      · exact q
      · rw [if_neg q] at f3; omega
    refine R_iload_n hB (j := 2) dX8_deed_8 rfl rfl ?_
    refine R_iconst hB dX8_deed_9 ?_
    refine R_iconst hB dX8_deed_10 ?_
    refine P_cS1 hB (s_in _ _ _ (by omega) (by omega) (by omega)) ms_X8_98 (by decide) dX8_deed_11 rfl rfl (Nat.le_of_ble_eq_true rfl) (fun z11 h11 => ?_)
    refine R_if_eq hB 26 (by rw [h11]; split <;> omega) dX8_deed_14 rfl (fun h14 => ?_) (fun h14 => ?_)
    · have hd : ¬ (0 ≤ w ∧ w ≤ 2) := fun q => by
        rw [if_pos q] at h11
        omega
      refine R_bipush hB dX8_deed_26 rfl ?_
      exact R_iret hB hE rfl dX8_deed_28 (by
        first
        | exact ⟨f1, by rw [if_pos (by omega)]; exact hv⟩
        | exact ⟨f1, by rw [if_neg (by omega)]⟩)
    · have hd : 0 ≤ w ∧ w ≤ 2 := by
        by_cases q : 0 ≤ w ∧ w ≤ 2
        · exact q
        · rw [if_neg q] at h11; omega
      refine R_aload_n hB (j := 0) dX8_deed_17 rfl rfl ?_
      refine R_iload_n hB (j := 1) dX8_deed_18 rfl rfl ?_
      refine R_iload_n hB (j := 2) dX8_deed_19 rfl rfl ?_
      refine P_cV1 hB (s_deedOf _ _ (by omega) hw) mv_X8_145 rfl rfl (by decide) dX8_deed_20 rfl rfl (Nat.le_of_ble_eq_true rfl) (fun z20 h20 => ?_)
      have hv : z20 = (if w = 0 then σ 33 d else if w = 1 then σ 34 d else σ 35 d) := by
        have hz := f2.2.2.2.2.2 d hc.1 (by rw [f1.1 2 (by decide)]; exact hc.2)
        rw [f1.1 33 (by decide), f1.1 34 (by decide), f1.1 35 (by decide)] at hz
        rw [h20, hz.1, hz.2.1, hz.2.2]
      refine R_goto hB 28 dX8_deed_23 rfl ?_
      exact R_iret hB hE rfl dX8_deed_28 (by
        first
        | exact ⟨f1, by rw [if_pos (by omega)]; exact hv⟩
        | exact ⟨f1, by rw [if_neg (by omega)]⟩)

theorem s_mlaw {Θ : Th} {σ : Mem} (w v : Int) (hw : rng w) (hv : rng v) : Spc Θ M_X8_law 1 [.ref (Th.r Θ 1), .int (I w), .int (I v)] σ (fun r σ' => (¬ ((0 ≤ w ∧ w < 3) ∧ (sv 2 w ≤ v ∧ v ≤ sv 3 w)) ∧ r = -2 ∧ σ' = σ) ∨ (((0 ≤ w ∧ w < 3) ∧ (sv 2 w ≤ v ∧ v ≤ sv 3 w)) ∧ r = σ 1 (11 + w) ∧ ∀ i k, σ' i k = if i = 1 ∧ k = 11 + w then v else σ i k)) := by
  refine Spc_of (by decide +kernel) (Nat.le_of_ble_eq_true rfl) (fun Γ hB hE => ?_)
  show Run Θ Γ 0 [(0, .ref (Th.r Θ 1)), (1, .int (I w)), (2, .int (I v))] [] σ
  refine R_canon (fun hcn => ?_)
  have q11 := hcn.i 1 11 (by decide) (by decide) (by decide)
  have q12 := hcn.i 1 12 (by decide) (by decide) (by decide)
  have q13 := hcn.i 1 13 (by decide) (by decide) (by decide)
  have s20 : sv 2 0 = 0 ∧ sv 2 1 = 0 ∧ sv 2 2 = 1 ∧ sv 3 0 = 9 ∧ sv 3 1 = 9 ∧ sv 3 2 = 8 := by decide
  refine R_iload_n hB (j := 1) dX8_law_0 rfl rfl ?_
  refine R_iconst hB dX8_law_1 ?_
  refine R_iconst hB dX8_law_2 ?_
  refine P_cS1 hB (s_in _ _ _ (by omega) (by omega) (by omega)) ms_X8_98 (by decide) dX8_law_3 rfl rfl (Nat.le_of_ble_eq_true rfl) (fun z3 h3 => ?_)
  have jn_38 : ∀ (_ : Unit), (¬ ((0 ≤ w ∧ w < 3) ∧ (sv 2 w ≤ v ∧ v ≤ sv 3 w))) → Run Θ Γ 38 [(0, .ref (Th.r Θ 1)), (1, .int (I w)), (2, .int (I v))] [] σ := by
    intro _ hbad
    refine R_bipush hB dX8_law_38 rfl ?_
    exact R_iret hB hE rfl dX8_law_40 (Or.inl ⟨hbad, rfl, rfl⟩)
  refine R_if_eq hB 38 (by rw [h3]; split <;> omega) dX8_law_6 rfl (fun h6 => ?_) (fun h6 => ?_)
  · have hc : ¬ (0 ≤ w ∧ w ≤ 2) := fun q => by
      rw [if_pos q] at h3
      omega
    exact R_sub [0, 1, 2] rfl (jn_38 () (by omega))
  · have hc : 0 ≤ w ∧ w ≤ 2 := by
      by_cases q : 0 ≤ w ∧ w ≤ 2
      · exact q
      · rw [if_neg q] at h3; omega
    refine R_iload_n hB (j := 2) dX8_law_9 rfl rfl ?_
    refine R_iload_n hB (j := 1) dX8_law_10 rfl rfl ?_
    refine R_iconst hB dX8_law_11 ?_
    have jn_20 : ∀ (a : Int), (a = if w = 2 then 1 else 0) → Run Θ Γ 20 [(0, .ref (Th.r Θ 1)), (1, .int (I w)), (2, .int (I v))] [.int (I a), .int (I v)] σ := by
      intro a ha
      refine R_iload_n hB (j := 1) dX8_law_20 rfl rfl ?_
      refine R_iconst hB dX8_law_21 ?_
      have jn_32 : ∀ (b : Int), (b = if w = 2 then 8 else 9) → Run Θ Γ 32 [(0, .ref (Th.r Θ 1)), (1, .int (I w)), (2, .int (I v))] [.int (I b), .int (I a), .int (I v)] σ := by
        intro b hb
        refine P_cS1 hB (s_in _ _ _ hv (by rw [ha]; split <;> omega) (by rw [hb]; split <;> omega)) ms_X8_98 (by decide) dX8_law_32 rfl rfl (Nat.le_of_ble_eq_true rfl) (fun z32 h32 => ?_)
        refine R_if_ne hB 41 (by rw [h32]; split <;> omega) dX8_law_35 rfl (fun h35 => ?_) (fun h35 => ?_)
        · have hd : a ≤ v ∧ v ≤ b := by
            by_cases q : a ≤ v ∧ v ≤ b
            · exact q
            · rw [if_neg q] at h32; omega
          have hok : (0 ≤ w ∧ w < 3) ∧ (sv 2 w ≤ v ∧ v ≤ sv 3 w) := by
            refine ⟨by omega, ?_⟩
            rcases (show w = 0 ∨ w = 1 ∨ w = 2 by omega) with rfl | rfl | rfl
            · rw [if_neg (by decide)] at ha hb; omega
            · rw [if_neg (by decide)] at ha hb; omega
            · rw [if_pos rfl] at ha hb; omega
          refine R_iload_n hB (j := 1) dX8_law_41 rfl rfl ?_
          have jn_68 : ∀ (x : Int), (x = σ 1 (11 + w)) → Run Θ Γ 68 [(0, .ref (Th.r Θ 1)), (1, .int (I w)), (2, .int (I v))] [.int (I x)] σ := by
            intro x hx
            refine R_istore_n hB (L' := [_, _, _, _]) dX8_law_68 rfl (Nat.le_of_ble_eq_true rfl) rfl ?_
            refine R_aload_n hB (j := 1) dX8_law_69 rfl rfl ?_
            refine R_iload_n hB (j := 2) dX8_law_70 rfl rfl ?_
            have jn_82 : ∀ (y : Int), (y = if w = 0 then v else σ 1 11) → Run Θ Γ 82 [(0, .ref (Th.r Θ 1)), (1, .int (I w)), (2, .int (I v)), (3, .int (I x))] [.int (I y), .ref (Th.r Θ 1)] σ := by
              intro y hy
              refine N_puti hB fp_X8_86 dX8_law_82 rfl (by rw [hy]; split <;> omega) (fun σ1 e1 => ?_)
              refine R_aload_n hB (j := 0) dX8_law_85 rfl rfl ?_
              refine R_iload_n hB (j := 1) dX8_law_86 rfl rfl ?_
              refine R_iconst hB dX8_law_87 ?_
              have jn_99 : ∀ (y2 : Int), (y2 = if w = 1 then v else σ 1 12) → Run Θ Γ 99 [(0, .ref (Th.r Θ 1)), (1, .int (I w)), (2, .int (I v)), (3, .int (I x))] [.int (I y2), .ref (Th.r Θ 1)] σ1 := by
                intro y2 hy2
                refine N_puti hB fp_X8_90 dX8_law_99 rfl (by rw [hy2]; split <;> omega) (fun σ2 e2 => ?_)
                refine R_aload_n hB (j := 0) dX8_law_102 rfl rfl ?_
                refine R_iload_n hB (j := 1) dX8_law_103 rfl rfl ?_
                refine R_iconst hB dX8_law_104 ?_
                have jn_116 : ∀ (y3 : Int), (y3 = if w = 2 then v else σ 1 13) → Run Θ Γ 116 [(0, .ref (Th.r Θ 1)), (1, .int (I w)), (2, .int (I v)), (3, .int (I x))] [.int (I y3), .ref (Th.r Θ 1)] σ2 := by
                  intro y3 hy3
                  refine N_puti hB fp_X8_93 dX8_law_116 rfl (by rw [hy3]; split <;> omega) (fun σ3 e3 => ?_)
                  refine R_iload_n hB (j := 3) dX8_law_119 rfl rfl ?_
                  exact R_iret hB hE rfl dX8_law_120 (by
                    refine Or.inr ⟨hok, hx, fun i k => ?_⟩
                    rw [e3, e2, e1]
                    unfold up
                    rcases (show w = 0 ∨ w = 1 ∨ w = 2 by omega) with rfl | rfl | rfl
                    · simp only [if_true] at hy
                      rw [if_neg (by decide)] at hy2 hy3
                      rw [hy, hy2, hy3]
                      by_cases c : i = 1
                      · subst c
                        by_cases c1 : k = 13
                        · subst c1; simp
                        · by_cases c2 : k = 12
                          · subst c2; simp
                          · simp [c1, c2]
                      · simp [c]
                    · simp only [if_true] at hy2
                      rw [if_neg (by decide)] at hy hy3
                      rw [hy, hy2, hy3]
                      by_cases c : i = 1
                      · subst c
                        by_cases c1 : k = 13
                        · subst c1; simp
                        · by_cases c2 : k = 11
                          · subst c2; simp
                          · simp [c1, c2]
                      · simp [c]
                    · simp only [if_true] at hy3
                      rw [if_neg (by decide)] at hy hy2
                      rw [hy, hy2, hy3]
                      by_cases c : i = 1
                      · subst c
                        by_cases c1 : k = 12
                        · subst c1; simp
                        · by_cases c2 : k = 11
                          · subst c2; simp
                          · simp [c1, c2]
                      · simp [c])
                refine R_icmp_ne hB 112 (by omega) (by omega) dX8_law_105 rfl (fun h105 => ?_) (fun h105 => ?_)
                · refine R_aload_n hB (j := 0) dX8_law_112 rfl rfl ?_
                  refine R_geti hB fl_X8_93 dX8_law_113 rfl ?_
                  exact R_sub [0, 1, 2, 3] rfl (jn_116 _ (by split <;> first | rfl | omega | (rw [e2, up_n (by decide), e1]; exact up_n (by decide))))
                · refine R_iload_n hB (j := 2) dX8_law_108 rfl rfl ?_
                  refine R_goto hB 116 dX8_law_109 rfl ?_
                  exact R_sub [0, 1, 2, 3] rfl (jn_116 _ (by split <;> first | rfl | omega | (rw [e2, up_n (by decide), e1]; exact up_n (by decide))))
              refine R_icmp_ne hB 95 (by omega) (by omega) dX8_law_88 rfl (fun h88 => ?_) (fun h88 => ?_)
              · refine R_aload_n hB (j := 0) dX8_law_95 rfl rfl ?_
                refine R_geti hB fl_X8_90 dX8_law_96 rfl ?_
                exact R_sub [0, 1, 2, 3] rfl (jn_99 _ (by split <;> first | rfl | omega | (rw [e1]; exact up_n (by decide))))
              · refine R_iload_n hB (j := 2) dX8_law_91 rfl rfl ?_
                refine R_goto hB 99 dX8_law_92 rfl ?_
                exact R_sub [0, 1, 2, 3] rfl (jn_99 _ (by split <;> first | rfl | omega | (rw [e1]; exact up_n (by decide))))
            refine R_if_ne hB 78 (by omega) dX8_law_71 rfl (fun h71 => ?_) (fun h71 => ?_)
            · refine R_aload_n hB (j := 1) dX8_law_78 rfl rfl ?_
              refine R_geti hB fl_X8_86 dX8_law_79 rfl ?_
              exact R_sub [1, 2, 3, 0] rfl (jn_82 _ (by split <;> first | rfl | omega))
            · refine R_iload_n hB (j := 3) dX8_law_74 rfl rfl ?_
              refine R_goto hB 82 dX8_law_75 rfl ?_
              exact R_sub [1, 2, 3, 0] rfl (jn_82 _ (by split <;> first | rfl | omega))
          refine R_if_ne hB 52 (by omega) dX8_law_42 rfl (fun h42 => ?_) (fun h42 => ?_)
          · refine R_iload_n hB (j := 1) dX8_law_52 rfl rfl ?_
            refine R_iconst hB dX8_law_53 ?_
            refine R_icmp_ne hB 64 (by omega) (by omega) dX8_law_54 rfl (fun h54 => ?_) (fun h54 => ?_)
            · refine R_aload_n hB (j := 0) dX8_law_64 rfl rfl ?_
              refine R_geti hB fl_X8_93 dX8_law_65 rfl ?_
              exact R_sub [0, 1, 2] rfl (jn_68 _ (by rw [show w = 2 by omega]; rfl))
            · refine R_aload_n hB (j := 0) dX8_law_57 rfl rfl ?_
              refine R_geti hB fl_X8_90 dX8_law_58 rfl ?_
              refine R_goto hB 68 dX8_law_61 rfl ?_
              exact R_sub [0, 1, 2] rfl (jn_68 _ (by rw [h54]; rfl))
          · refine R_aload_n hB (j := 0) dX8_law_45 rfl rfl ?_
            refine R_geti hB fl_X8_86 dX8_law_46 rfl ?_
            refine R_goto hB 68 dX8_law_49 rfl ?_
            exact R_sub [0, 1, 2] rfl (jn_68 _ (by rw [h42]; rfl))
        · have hd : ¬ (a ≤ v ∧ v ≤ b) := fun q => by
            rw [if_pos q] at h32
            omega
          exact R_sub [0, 1, 2] rfl (jn_38 () (fun q => by
            rcases (show w = 0 ∨ w = 1 ∨ w = 2 by omega) with rfl | rfl | rfl
            · omega
            · omega
            · omega))
      refine R_icmp_ne hB 30 (by omega) (by omega) dX8_law_22 rfl (fun h22 => ?_) (fun h22 => ?_)
      · refine R_bipush hB dX8_law_30 rfl ?_
        exact R_sub [0, 1, 2] rfl (jn_32 _ (by split <;> omega))
      · refine R_bipush hB dX8_law_25 rfl ?_
        refine R_goto hB 32 dX8_law_27 rfl ?_
        exact R_sub [0, 1, 2] rfl (jn_32 _ (by split <;> omega))
    refine R_icmp_ne hB 19 (by omega) (by omega) dX8_law_12 rfl (fun h12 => ?_) (fun h12 => ?_)
    · refine R_iconst hB dX8_law_19 ?_
      exact R_sub [0, 1, 2] rfl (jn_20 _ (by split <;> omega))
    · refine R_iconst hB dX8_law_15 ?_
      refine R_goto hB 20 dX8_law_16 rfl ?_
      exact R_sub [0, 1, 2] rfl (jn_20 _ (by split <;> omega))
