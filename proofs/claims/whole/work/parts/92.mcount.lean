theorem s_sumOf {Θ : Th} {σ : Mem} (w : Int) (hw : w = 0 ∨ w = 1 ∨ w = 4 ∨ w = 5 ∨ w = 6) (h : InvC σ) (hR : Rel σ) : Spc Θ M_X8_sumOf 1 [.ref (Th.r Θ 1), .int (I w)] σ (fun r σ' => FrM σ σ' ∧ RR σ' ∧ r = cCt σ w) := by
  refine Spc_of (by decide +kernel) (Nat.le_of_ble_eq_true rfl) (fun Γ hB hE => ?_)
  show Run Θ Γ 0 [(0, .ref (Th.r Θ 1)), (1, .int (I w))] [] σ
  refine R_aload_n hB (j := 0) dX8_sumOf_0 rfl rfl ?_
  refine R_cV0 hB (s_runsTold h hR) mv_X8_177 rfl rfl (by decide) dX8_sumOf_1 rfl rfl (Nat.le_of_ble_eq_true rfl) (fun σ1 h1 => ?_)
  obtain ⟨f1, f2⟩ := h1
  have hns := h.ns
  have hds := h.row.1
  have r0 : σ1 0 = σ 0 := f1.1 0 (by decide)
  have r2 : σ1 2 = σ 2 := f1.1 2 (by decide)
  have r25 : σ1 25 = σ 25 := f1.1 25 (by decide)
  have n2 : σ1 1 2 = σ 0 2 := by rw [f2.1.2.2.1, r0]
  have n7 : σ1 1 7 = σ 2 4 := by rw [f2.1.2.2.2.1, r2]
  refine R_iload_n hB (j := 1) dX8_sumOf_4 rfl rfl ?_
  refine R_if_ne hB 15 (by omega) dX8_sumOf_5 rfl (fun h5 => ?_) (fun h5 => ?_)
  · refine R_iload_n hB (j := 1) dX8_sumOf_15 rfl rfl ?_
    refine R_iconst hB dX8_sumOf_16 ?_
    refine R_icmp_ne hB 27 (by omega) (by omega) dX8_sumOf_17 rfl (fun h17 => ?_) (fun h17 => ?_)
    · refine R_iload_n hB (j := 1) dX8_sumOf_27 rfl rfl ?_
      refine R_iconst hB dX8_sumOf_28 ?_
      refine R_icmp_ne hB 39 (by omega) (by omega) dX8_sumOf_29 rfl (fun h29 => ?_) (fun h29 => ?_)
      · refine R_iload_n hB (j := 1) dX8_sumOf_39 rfl rfl ?_
        refine R_iconst hB dX8_sumOf_40 ?_
        refine R_icmp_ne hB 51 (by omega) (by omega) dX8_sumOf_41 rfl (fun h41 => ?_) (fun h41 => ?_)
        · refine R_aload_n hB (j := 0) dX8_sumOf_51 rfl rfl ?_
          refine P_cV1 hB (s_wakingsNow (by omega)) mv_X8_293 rfl rfl (by decide) dX8_sumOf_52 rfl rfl (Nat.le_of_ble_eq_true rfl) (fun z52 h52 => ?_)
          have hP : z52 = cSm σ 2 := by
            rw [h52, n2]
            unfold cSm
            refine sumN_cg (fun s hs => ?_)
            rw [(f2.2.2.2 s (by rw [r0]; omega)).2.2, mm_cWk f1.1 (by omega)]
            rfl
          exact R_iret hB hE rfl dX8_sumOf_55 (by
            refine ⟨f1, f2.1, ?_⟩
            first
            | (rw [cCt, if_pos (by omega)]; exact n2)
            | (rw [cCt, if_neg (by omega), if_pos (by omega)]; exact n7)
            | (rw [cCt, if_neg (by omega), if_neg (by omega), if_neg (by omega), if_neg (by omega), if_pos (by omega)]; exact hP)
            | (rw [cCt, if_neg (by omega), if_neg (by omega), if_neg (by omega), if_neg (by omega), if_neg (by omega), if_pos (by omega)]; exact hP)
            | (rw [cCt, if_neg (by omega), if_neg (by omega), if_neg (by omega), if_neg (by omega), if_neg (by omega), if_neg (by omega), if_pos (by omega)]; exact hP))
        · refine R_aload_n hB (j := 0) dX8_sumOf_44 rfl rfl ?_
          refine P_cV1 hB (s_marksNow (by omega) (by omega)) mv_X8_276 rfl rfl (by decide) dX8_sumOf_45 rfl rfl (Nat.le_of_ble_eq_true rfl) (fun z45 h45 => ?_)
          have hP : z45 = cSm σ 3 := by
            rw [h45, n2]
            unfold cSm
            refine sumN_cg (fun s hs => ?_)
            rw [f2.mk (by rw [r0]; omega), f1.1 (8 + s) (by simp; omega), f1.1 33 (by decide), f1.1 34 (by decide), f1.1 35 (by decide), r2]
          refine R_goto hB 55 dX8_sumOf_48 rfl ?_
          exact R_iret hB hE rfl dX8_sumOf_55 (by
            refine ⟨f1, f2.1, ?_⟩
            first
            | (rw [cCt, if_pos (by omega)]; exact n2)
            | (rw [cCt, if_neg (by omega), if_pos (by omega)]; exact n7)
            | (rw [cCt, if_neg (by omega), if_neg (by omega), if_neg (by omega), if_neg (by omega), if_pos (by omega)]; exact hP)
            | (rw [cCt, if_neg (by omega), if_neg (by omega), if_neg (by omega), if_neg (by omega), if_neg (by omega), if_pos (by omega)]; exact hP)
            | (rw [cCt, if_neg (by omega), if_neg (by omega), if_neg (by omega), if_neg (by omega), if_neg (by omega), if_neg (by omega), if_pos (by omega)]; exact hP))
      · refine R_aload_n hB (j := 0) dX8_sumOf_32 rfl rfl ?_
        refine P_cV1 hB (s_provenNow (by omega) (by omega)) mv_X8_217 rfl rfl (by decide) dX8_sumOf_33 rfl rfl (Nat.le_of_ble_eq_true rfl) (fun z33 h33 => ?_)
        have hP : z33 = cPr σ := by
          rw [h33, n7]
          unfold cPr
          refine cnt_cg (fun d hd => ?_)
          rw [f2.pr (by rw [r2]; omega), r25, mm_cntT f1.1 hns.2]
        refine R_goto hB 55 dX8_sumOf_36 rfl ?_
        exact R_iret hB hE rfl dX8_sumOf_55 (by
          refine ⟨f1, f2.1, ?_⟩
          first
          | (rw [cCt, if_pos (by omega)]; exact n2)
          | (rw [cCt, if_neg (by omega), if_pos (by omega)]; exact n7)
          | (rw [cCt, if_neg (by omega), if_neg (by omega), if_neg (by omega), if_neg (by omega), if_pos (by omega)]; exact hP)
          | (rw [cCt, if_neg (by omega), if_neg (by omega), if_neg (by omega), if_neg (by omega), if_neg (by omega), if_pos (by omega)]; exact hP)
          | (rw [cCt, if_neg (by omega), if_neg (by omega), if_neg (by omega), if_neg (by omega), if_neg (by omega), if_neg (by omega), if_pos (by omega)]; exact hP))
    · refine R_aload_n hB (j := 0) dX8_sumOf_20 rfl rfl ?_
      refine R_geti hB fl_X8_117 dX8_sumOf_21 rfl ?_
      refine R_goto hB 55 dX8_sumOf_24 rfl ?_
      exact R_iret hB hE rfl dX8_sumOf_55 (by
        refine ⟨f1, f2.1, ?_⟩
        first
        | (rw [cCt, if_pos (by omega)]; exact n2)
        | (rw [cCt, if_neg (by omega), if_pos (by omega)]; exact n7)
        | (rw [cCt, if_neg (by omega), if_neg (by omega), if_neg (by omega), if_neg (by omega), if_pos (by omega)]; exact hP)
        | (rw [cCt, if_neg (by omega), if_neg (by omega), if_neg (by omega), if_neg (by omega), if_neg (by omega), if_pos (by omega)]; exact hP)
        | (rw [cCt, if_neg (by omega), if_neg (by omega), if_neg (by omega), if_neg (by omega), if_neg (by omega), if_neg (by omega), if_pos (by omega)]; exact hP))
  · refine R_aload_n hB (j := 0) dX8_sumOf_8 rfl rfl ?_
    refine R_geti hB fl_X8_114 dX8_sumOf_9 rfl ?_
    refine R_goto hB 55 dX8_sumOf_12 rfl ?_
    exact R_iret hB hE rfl dX8_sumOf_55 (by
      refine ⟨f1, f2.1, ?_⟩
      first
      | (rw [cCt, if_pos (by omega)]; exact n2)
      | (rw [cCt, if_neg (by omega), if_pos (by omega)]; exact n7)
      | (rw [cCt, if_neg (by omega), if_neg (by omega), if_neg (by omega), if_neg (by omega), if_pos (by omega)]; exact hP)
      | (rw [cCt, if_neg (by omega), if_neg (by omega), if_neg (by omega), if_neg (by omega), if_neg (by omega), if_pos (by omega)]; exact hP)
      | (rw [cCt, if_neg (by omega), if_neg (by omega), if_neg (by omega), if_neg (by omega), if_neg (by omega), if_neg (by omega), if_pos (by omega)]; exact hP))

theorem s_mcount {Θ : Th} {σ : Mem} (w : Int) (hwr : rng w) (h : InvC σ) (hB0 : Bond σ) : Spc Θ M_X8_count 1 [.ref (Th.r Θ 1), .int (I w)] σ (fun r σ' => FrM σ σ' ∧ r = cCt σ w) := by
  refine Spc_of (by decide +kernel) (Nat.le_of_ble_eq_true rfl) (fun Γ hB hE => ?_)
  show Run Θ Γ 0 [(0, .ref (Th.r Θ 1)), (1, .int (I w))] [] σ
  refine R_canon (fun hcn => ?_)
  have q1 := hcn.i 1 22 (by decide) (by decide) (by decide)
  have q2 := hcn.i 1 33 (by decide) (by decide) (by decide)
  refine R_iload_n hB (j := 1) dX8_count_0 rfl rfl ?_
  rcases (show ((w) < 0 ∨ 8 < (w)) ∨ (w) = 0 ∨ (w) = 1 ∨ (w) = 2 ∨ (w) = 3 ∨ (w) = 4 ∨ (w) = 5 ∨ (w) = 6 ∨ (w) = 7 ∨ (w) = 8 by omega) with h1 | h1 | h1 | h1 | h1 | h1 | h1 | h1 | h1 | h1
  · refine R_tsOut hB 77 (by omega) dX8_count_1 h1 rfl ?_
    refine R_bipush hB dX8_count_77 rfl ?_
    exact R_iret hB hE rfl dX8_count_79 (by
      refine ⟨FrM.rf, ?_⟩
      rw [cCt, if_neg (by omega), if_neg (by omega), if_neg (by omega), if_neg (by omega), if_neg (by omega), if_neg (by omega), if_neg (by omega), if_neg (by omega), if_neg (by omega)])
  · refine R_tsIn hB 0 52 (by omega) h1 dX8_count_1 (by decide) (by decide) rfl rfl ?_
    refine R_aload_n hB (j := 0) dX8_count_52 rfl rfl ?_
    refine R_iload_n hB (j := 1) dX8_count_53 rfl rfl ?_
    refine R_cV1 hB (s_sumOf w (by omega) h hB0.1) mv_X8_296 rfl rfl (by decide) dX8_count_54 rfl rfl (Nat.le_of_ble_eq_true rfl) (fun z54 σ1 h54 => ?_)
    exact R_iret hB hE rfl dX8_count_57 (⟨h54.1, h54.2.2⟩)
  · refine R_tsIn hB 1 52 (by omega) h1 dX8_count_1 (by decide) (by decide) rfl rfl ?_
    refine R_aload_n hB (j := 0) dX8_count_52 rfl rfl ?_
    refine R_iload_n hB (j := 1) dX8_count_53 rfl rfl ?_
    refine R_cV1 hB (s_sumOf w (by omega) h hB0.1) mv_X8_296 rfl rfl (by decide) dX8_count_54 rfl rfl (Nat.le_of_ble_eq_true rfl) (fun z54 σ1 h54 => ?_)
    exact R_iret hB hE rfl dX8_count_57 (⟨h54.1, h54.2.2⟩)
  · refine R_tsIn hB 2 58 (by omega) h1 dX8_count_1 (by decide) (by decide) rfl rfl ?_
    refine R_aload_n hB (j := 0) dX8_count_58 rfl rfl ?_
    refine R_getr hB (53) fl_X8_7 dX8_count_59 rfl rfl ?_
    refine R_iload_n hB (j := 1) dX8_count_62 rfl rfl ?_
    refine R_iconst hB dX8_count_63 ?_
    refine R_isub hB dX8_count_64 ?_
    refine R_iald hB rfl (by omega) dX8_count_65 ?_
    exact R_iret hB hE rfl dX8_count_66 (by
      refine ⟨FrM.rf, ?_⟩
      rcases (show w = 2 ∨ w = 3 by omega) with q | q
      · rw [q, cCt, if_neg (by omega), if_neg (by omega), if_pos rfl]; exact hB0.1.2.1.1
      · rw [q, cCt, if_neg (by omega), if_neg (by omega), if_neg (by omega), if_pos rfl]; exact hB0.1.2.1.2)
  · refine R_tsIn hB 3 58 (by omega) h1 dX8_count_1 (by decide) (by decide) rfl rfl ?_
    refine R_aload_n hB (j := 0) dX8_count_58 rfl rfl ?_
    refine R_getr hB (53) fl_X8_7 dX8_count_59 rfl rfl ?_
    refine R_iload_n hB (j := 1) dX8_count_62 rfl rfl ?_
    refine R_iconst hB dX8_count_63 ?_
    refine R_isub hB dX8_count_64 ?_
    refine R_iald hB rfl (by omega) dX8_count_65 ?_
    exact R_iret hB hE rfl dX8_count_66 (by
      refine ⟨FrM.rf, ?_⟩
      rcases (show w = 2 ∨ w = 3 by omega) with q | q
      · rw [q, cCt, if_neg (by omega), if_neg (by omega), if_pos rfl]; exact hB0.1.2.1.1
      · rw [q, cCt, if_neg (by omega), if_neg (by omega), if_neg (by omega), if_pos rfl]; exact hB0.1.2.1.2)
  · refine R_tsIn hB 4 52 (by omega) h1 dX8_count_1 (by decide) (by decide) rfl rfl ?_
    refine R_aload_n hB (j := 0) dX8_count_52 rfl rfl ?_
    refine R_iload_n hB (j := 1) dX8_count_53 rfl rfl ?_
    refine R_cV1 hB (s_sumOf w (by omega) h hB0.1) mv_X8_296 rfl rfl (by decide) dX8_count_54 rfl rfl (Nat.le_of_ble_eq_true rfl) (fun z54 σ1 h54 => ?_)
    exact R_iret hB hE rfl dX8_count_57 (⟨h54.1, h54.2.2⟩)
  · refine R_tsIn hB 5 52 (by omega) h1 dX8_count_1 (by decide) (by decide) rfl rfl ?_
    refine R_aload_n hB (j := 0) dX8_count_52 rfl rfl ?_
    refine R_iload_n hB (j := 1) dX8_count_53 rfl rfl ?_
    refine R_cV1 hB (s_sumOf w (by omega) h hB0.1) mv_X8_296 rfl rfl (by decide) dX8_count_54 rfl rfl (Nat.le_of_ble_eq_true rfl) (fun z54 σ1 h54 => ?_)
    exact R_iret hB hE rfl dX8_count_57 (⟨h54.1, h54.2.2⟩)
  · refine R_tsIn hB 6 52 (by omega) h1 dX8_count_1 (by decide) (by decide) rfl rfl ?_
    refine R_aload_n hB (j := 0) dX8_count_52 rfl rfl ?_
    refine R_iload_n hB (j := 1) dX8_count_53 rfl rfl ?_
    refine R_cV1 hB (s_sumOf w (by omega) h hB0.1) mv_X8_296 rfl rfl (by decide) dX8_count_54 rfl rfl (Nat.le_of_ble_eq_true rfl) (fun z54 σ1 h54 => ?_)
    exact R_iret hB hE rfl dX8_count_57 (⟨h54.1, h54.2.2⟩)
  · refine R_tsIn hB 7 67 (by omega) h1 dX8_count_1 (by decide) (by decide) rfl rfl ?_
    refine R_aload_n hB (j := 0) dX8_count_67 rfl rfl ?_
    refine R_geti hB fl_X8_235 dX8_count_68 rfl ?_
    exact R_iret hB hE rfl dX8_count_71 (by
      refine ⟨FrM.rf, ?_⟩
      rw [cCt, if_neg (by omega), if_neg (by omega), if_neg (by omega), if_neg (by omega), if_neg (by omega), if_neg (by omega), if_neg (by omega), if_pos h1]; exact hB0.2.1.1)
  · refine R_tsIn hB 8 72 (by omega) h1 dX8_count_1 (by decide) (by decide) rfl rfl ?_
    refine R_aload_n hB (j := 0) dX8_count_72 rfl rfl ?_
    refine R_geti hB fl_X8_282 dX8_count_73 rfl ?_
    exact R_iret hB hE rfl dX8_count_76 (by
      refine ⟨FrM.rf, ?_⟩
      rw [cCt, if_neg (by omega), if_neg (by omega), if_neg (by omega), if_neg (by omega), if_neg (by omega), if_neg (by omega), if_neg (by omega), if_neg (by omega), if_pos h1]; exact hB0.2.2.2)
