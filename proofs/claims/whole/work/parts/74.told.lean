theorem s_faultOf {Θ : Th} {σ : Mem} (t : Int) (ht : 0 ≤ t ∧ t < 2) (h : InvC σ) (hR : Rel σ) : Spc Θ M_X8_faultOf 1 [.ref (Th.r Θ 1), .int (I t)] σ (fun r σ' => FFz t.toNat (σ (29 + t.toNat)) (σ (16 + t.toNat) 3) r ∧ FrM σ σ' ∧ RR σ') := by
  refine Spc_of (by decide +kernel) (Nat.le_of_ble_eq_true rfl) (fun Γ hB hE => ?_)
  show Run Θ Γ 0 [(0, .ref (Th.r Θ 1)), (1, .int (I t))] [] σ
  refine R_aload_n hB (j := 0) dX8_faultOf_0 rfl rfl ?_
  refine R_iconst hB dX8_faultOf_1 ?_
  refine R_cV1 hB (s_readsParts_0 hR.1) mv_X8_126 rfl rfl (by decide) dX8_faultOf_2 rfl rfl (Nat.le_of_ble_eq_true rfl) (fun z2 σ1 h2 => ?_)
  have hm1 : MtOK σ1 := by
    unfold MtOK
    rw [h2.2.1 53 (by decide), h2.2.1 54 (by decide)]; exact hR.1
  refine R_istore_n hB (L' := [_, _, _]) dX8_faultOf_5 rfl (Nat.le_of_ble_eq_true rfl) rfl ?_
  refine R_aload_n hB (j := 1) dX8_faultOf_6 rfl rfl ?_
  refine R_iconst hB dX8_faultOf_7 ?_
  refine R_cV1 hB (s_readsParts_1 hm1) mv_X8_126 rfl rfl (by decide) dX8_faultOf_8 rfl rfl (Nat.le_of_ble_eq_true rfl) (fun z8 σ2 h8 => ?_)
  obtain ⟨f0, f1, f2, f3⟩ := RD_of h hR h2 h8
  refine R_istore_n hB (L' := [_, _, _, _]) dX8_faultOf_11 rfl (Nat.le_of_ble_eq_true rfl) rfl ?_
  refine R_iload_n hB (j := 3) dX8_faultOf_12 rfl rfl ?_
  refine R_if_ne hB 20 (by omega) dX8_faultOf_13 rfl (fun h13 => ?_) (fun h13 => ?_)
  · refine R_iload_n hB (j := 0) dX8_faultOf_20 rfl rfl ?_
    exact R_iret hB hE rfl dX8_faultOf_21 (by
      first
      | exact ⟨by rw [h13]; exact f0, f2, f3⟩
      | exact ⟨by rw [show t = 1 by omega]; exact f1, f2, f3⟩)
  · refine R_iload_n hB (j := 1) dX8_faultOf_16 rfl rfl ?_
    refine R_goto hB 21 dX8_faultOf_17 rfl ?_
    exact R_iret hB hE rfl dX8_faultOf_21 (by
      first
      | exact ⟨by rw [h13]; exact f0, f2, f3⟩
      | exact ⟨by rw [show t = 1 by omega]; exact f1, f2, f3⟩)

theorem s_reads {Θ : Th} {σ : Mem} (h : InvC σ) (hR : Rel σ) : Spc Θ M_X8_reads 0 [.ref (Th.r Θ 1)] σ (fun _ σ' => FrM σ σ' ∧ RR σ') := by
  refine Spc_of (by decide +kernel) (Nat.le_of_ble_eq_true rfl) (fun Γ hB hE => ?_)
  show Run Θ Γ 0 [(0, .ref (Th.r Θ 1))] [] σ
  refine R_aload_n hB (j := 0) dX8_reads_0 rfl rfl ?_
  refine R_iconst hB dX8_reads_1 ?_
  refine R_cV1 hB (s_faultOf 0 (by omega) h hR) mv_X8_130 rfl rfl (by decide) dX8_reads_2 rfl rfl (Nat.le_of_ble_eq_true rfl) (fun z2 σ1 h2 => ?_)
  refine R_istore_n hB (L' := [_, _]) dX8_reads_5 rfl (Nat.le_of_ble_eq_true rfl) rfl ?_
  exact R_vret hB hE rfl dX8_reads_6 (h2.2)

theorem s_mfault {Θ : Th} {σ : Mem} (t : Int) (ht : rng t) (h : InvC σ) (hR : Rel σ) : Spc Θ M_X8_fault 1 [.ref (Th.r Θ 1), .int (I t)] σ (fun r σ' => FrM σ σ' ∧ if 0 ≤ t ∧ t < 2 then FFz t.toNat (σ (29 + t.toNat)) (σ (16 + t.toNat) 3) r else r = -2) := by
  refine Spc_of (by decide +kernel) (Nat.le_of_ble_eq_true rfl) (fun Γ hB hE => ?_)
  show Run Θ Γ 0 [(0, .ref (Th.r Θ 1)), (1, .int (I t))] [] σ
  refine R_iload_n hB (j := 1) dX8_fault_0 rfl rfl ?_
  refine P_cS1 hB (s_misText _ (by omega)) ms_X8_102 (by decide) dX8_fault_1 rfl rfl (Nat.le_of_ble_eq_true rfl) (fun z1 h1 => ?_)
  refine R_if_eq hB 15 (by rw [h1]; split <;> omega) dX8_fault_4 rfl (fun h4 => ?_) (fun h4 => ?_)
  · have hc : ¬ (0 ≤ t ∧ t < 2) := fun q => by
      rw [if_pos q] at h1
      omega
    refine R_bipush hB dX8_fault_15 rfl ?_
    exact R_iret hB hE rfl dX8_fault_17 (by
      first
      | exact ⟨h9.2.1, by rw [if_pos hc]; exact h9.1⟩
      | exact ⟨FrM.rf, by rw [if_neg hc]⟩)
  · have hc : 0 ≤ t ∧ t < 2 := by
      by_cases q : 0 ≤ t ∧ t < 2
      · exact q
      · rw [if_neg q] at h1; omega
    refine R_aload_n hB (j := 0) dX8_fault_7 rfl rfl ?_
    refine R_iload_n hB (j := 1) dX8_fault_8 rfl rfl ?_
    refine R_cV1 hB (s_faultOf t hc h hR) mv_X8_130 rfl rfl (by decide) dX8_fault_9 rfl rfl (Nat.le_of_ble_eq_true rfl) (fun z9 σ1 h9 => ?_)
    refine R_goto hB 17 dX8_fault_12 rfl ?_
    exact R_iret hB hE rfl dX8_fault_17 (by
      first
      | exact ⟨h9.2.1, by rw [if_pos hc]; exact h9.1⟩
      | exact ⟨FrM.rf, by rw [if_neg hc]⟩)

theorem s_isSleeper {Θ : Th} {σ : Mem} (k : Int) (hk : rng k) (h : InvC σ) (hR : Rel σ) : Spc Θ M_X8_isSleeper 1 [.ref (Th.r Θ 1), .int (I k)] σ (fun z σ' => FrM σ σ' ∧ RR σ' ∧ z = if 0 ≤ k ∧ k < σ 0 2 then 1 else 0) := by
  refine Spc_of (by decide +kernel) (Nat.le_of_ble_eq_true rfl) (fun Γ hB hE => ?_)
  show Run Θ Γ 0 [(0, .ref (Th.r Θ 1)), (1, .int (I k))] [] σ
  refine R_aload_n hB (j := 0) dX8_isSleeper_0 rfl rfl ?_
  refine R_cV0 hB (s_reads h hR) mv_X8_133 rfl rfl (by decide) dX8_isSleeper_1 rfl rfl (Nat.le_of_ble_eq_true rfl) (fun σ1 h1 => ?_)
  obtain ⟨f1, f2⟩ := h1
  have n1 : σ1 1 2 = σ 0 2 := by rw [f2.2.2.1, f1.1 0 (by decide)]
  have hb1 := h.ns
  have hb2 := h.row.1
  refine R_iload_n hB (j := 1) dX8_isSleeper_4 rfl rfl ?_
  refine R_iconst hB dX8_isSleeper_5 ?_
  refine R_aload_n hB (j := 0) dX8_isSleeper_6 rfl rfl ?_
  refine R_geti hB fl_X8_114 dX8_isSleeper_7 rfl ?_
  refine R_iconst hB dX8_isSleeper_10 ?_
  refine R_isub hB dX8_isSleeper_11 ?_
  refine P_cS1 hB (s_in _ _ _ (by omega) (by omega) (by rw [n1]; omega)) ms_X8_98 (by decide) dX8_isSleeper_12 rfl rfl (Nat.le_of_ble_eq_true rfl) (fun z12 h12 => ?_)
  rw [n1] at h12
  exact R_zret hB hE rfl (by rw [h12]; split <;> rfl) dX8_isSleeper_15 (⟨f1, f2, by rw [h12]; split <;> split <;> omega⟩)

theorem s_isDeed {Θ : Th} {σ : Mem} (k : Int) (hk : rng k) (h : InvC σ) (hR : Rel σ) : Spc Θ M_X8_isDeed 1 [.ref (Th.r Θ 1), .int (I k)] σ (fun z σ' => FrM σ σ' ∧ RR σ' ∧ z = if 0 ≤ k ∧ k < σ 2 4 then 1 else 0) := by
  refine Spc_of (by decide +kernel) (Nat.le_of_ble_eq_true rfl) (fun Γ hB hE => ?_)
  show Run Θ Γ 0 [(0, .ref (Th.r Θ 1)), (1, .int (I k))] [] σ
  refine R_aload_n hB (j := 0) dX8_isDeed_0 rfl rfl ?_
  refine R_cV0 hB (s_reads h hR) mv_X8_133 rfl rfl (by decide) dX8_isDeed_1 rfl rfl (Nat.le_of_ble_eq_true rfl) (fun σ1 h1 => ?_)
  obtain ⟨f1, f2⟩ := h1
  have n1 : σ1 1 7 = σ 2 4 := by rw [f2.2.2.2.1, f1.1 2 (by decide)]
  have hb1 := h.ns
  have hb2 := h.row.1
  refine R_iload_n hB (j := 1) dX8_isDeed_4 rfl rfl ?_
  refine R_iconst hB dX8_isDeed_5 ?_
  refine R_aload_n hB (j := 0) dX8_isDeed_6 rfl rfl ?_
  refine R_geti hB fl_X8_117 dX8_isDeed_7 rfl ?_
  refine R_iconst hB dX8_isDeed_10 ?_
  refine R_isub hB dX8_isDeed_11 ?_
  refine P_cS1 hB (s_in _ _ _ (by omega) (by omega) (by rw [n1]; omega)) ms_X8_98 (by decide) dX8_isDeed_12 rfl rfl (Nat.le_of_ble_eq_true rfl) (fun z12 h12 => ?_)
  rw [n1] at h12
  exact R_zret hB hE rfl (by rw [h12]; split <;> rfl) dX8_isDeed_15 (⟨f1, f2, by rw [h12]; split <;> split <;> omega⟩)

theorem s_asTold {Θ : Th} {σ : Mem} (h : InvC σ) (hR : Rel σ) : Spc Θ M_X8_asTold 0 [.ref (Th.r Θ 1)] σ (fun _ σ' => FrM σ σ' ∧ RR σ' ∧ σ' 1 14 = 0 ∧ σ' 1 15 = 0) := by
  refine Spc_of (by decide +kernel) (Nat.le_of_ble_eq_true rfl) (fun Γ hB hE => ?_)
  show Run Θ Γ 0 [(0, .ref (Th.r Θ 1))] [] σ
  refine R_aload_n hB (j := 0) dX8_asTold_0 rfl rfl ?_
  refine R_cV0 hB (s_reads h hR) mv_X8_133 rfl rfl (by decide) dX8_asTold_1 rfl rfl (Nat.le_of_ble_eq_true rfl) (fun σ1 h1 => ?_)
  refine R_aload_n hB (j := 0) dX8_asTold_4 rfl rfl ?_
  refine R_iconst hB dX8_asTold_5 ?_
  refine N_puti hB fp_X8_154 dX8_asTold_6 rfl (by omega) (fun σ2 e2 => ?_)
  refine R_aload_n hB (j := 0) dX8_asTold_9 rfl rfl ?_
  refine R_iconst hB dX8_asTold_10 ?_
  refine N_puti hB fp_X8_168 dX8_asTold_11 rfl (by omega) (fun σ3 e3 => ?_)
  exact R_vret hB hE rfl dX8_asTold_14 (by
    rw [e3, e2]
    exact ⟨(h1.1.tr (FrM.fld (by decide))).tr (FrM.fld (by decide)), (h1.2.fld (by decide)).fld (by decide), by rw [up_n (by decide), up_s], up_s _ _ _ _⟩)

theorem s_runsTold {Θ : Th} {σ : Mem} (h : InvC σ) (hR : Rel σ) : Spc Θ M_X8_runsTold 0 [.ref (Th.r Θ 1)] σ (fun _ σ' => FrM σ σ' ∧ RT σ') := by
  refine Spc_of (by decide +kernel) (Nat.le_of_ble_eq_true rfl) (fun Γ hB hE => ?_)
  show Run Θ Γ 0 [(0, .ref (Th.r Θ 1))] [] σ
  refine R_aload_n hB (j := 0) dX8_runsTold_0 rfl rfl ?_
  refine R_cV0 hB (s_asTold h hR) mv_X8_171 rfl rfl (by decide) dX8_runsTold_1 rfl rfl (Nat.le_of_ble_eq_true rfl) (fun σ1 h1 => ?_)
  obtain ⟨a1, a2, a3, a4⟩ := h1
  refine R_aload_n hB (j := 0) dX8_runsTold_4 rfl rfl ?_
  refine R_cV0 hB (s_runs (a2.npre (by omega) (by omega))) mv_X8_174 rfl rfl (by decide) dX8_runsTold_5 rfl rfl (Nat.le_of_ble_eq_true rfl) (fun σ2 h5 => ?_)
  exact R_vret hB hE rfl dX8_runsTold_8 (⟨a1.tr (FrM.ns h5.1), RT_of a2 a3 a4 h5⟩)
