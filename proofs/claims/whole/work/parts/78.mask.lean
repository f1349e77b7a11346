theorem s_depthOf {Θ : Th} {σ : Mem} (hour s : Int) (hh : 0 ≤ hour ∧ hour < 50) (hs : 0 ≤ s ∧ s < σ 0 2) (h : InvC σ) (hR : Rel σ) : Spc Θ M_X8_depthOf 1 [.ref (Th.r Θ 1), .int (I hour), .int (I s)] σ (fun r σ' => FrM σ σ' ∧ RR σ' ∧ r = dpH σ s.toNat hour) := by
  refine Spc_of (by decide +kernel) (Nat.le_of_ble_eq_true rfl) (fun Γ hB hE => ?_)
  show Run Θ Γ 0 [(0, .ref (Th.r Θ 1)), (1, .int (I hour)), (2, .int (I s))] [] σ
  refine R_aload_n hB (j := 0) dX8_depthOf_0 rfl rfl ?_
  refine R_cV0 hB (s_runsTold h hR) mv_X8_177 rfl rfl (by decide) dX8_depthOf_1 rfl rfl (Nat.le_of_ble_eq_true rfl) (fun σ1 h1 => ?_)
  obtain ⟨f1, f2⟩ := h1
  have hns := h.ns
  have hds := h.row.1
  have r0 : σ1 0 = σ 0 := f1.1 0 (by decide)
  have r2 : σ1 2 = σ 2 := f1.1 2 (by decide)
  have r25 : σ1 25 = σ 25 := f1.1 25 (by decide)
  have n2 : σ1 1 2 = σ 0 2 := by rw [f2.1.2.2.1, r0]
  have n7 : σ1 1 7 = σ 2 4 := by rw [f2.1.2.2.2.1, r2]
  refine R_aload_n hB (j := 0) dX8_depthOf_4 rfl rfl ?_
  refine R_getr hB (62) fl_X8_37 dX8_depthOf_5 rfl rfl ?_
  refine R_bipush hB dX8_depthOf_8 rfl ?_
  refine R_iload_n hB (j := 2) dX8_depthOf_10 rfl rfl ?_
  refine R_imul hB dX8_depthOf_11 ?_
  refine R_iload_n hB (j := 1) dX8_depthOf_12 rfl rfl ?_
  refine R_iadd hB dX8_depthOf_13 ?_
  refine R_iald hB rfl (by omega) dX8_depthOf_14 ?_
  exact R_iret hB hE rfl dX8_depthOf_15 (by
    refine ⟨f1, f2.1, ?_⟩
    have q := (f2.2.2.2 s.toNat (by rw [r0]; omega)).2.1 hour hh.1 hh.2
    rw [mm_dpH f1.1 (by omega), show ((s.toNat : Nat) : Int) = s by omega] at q
    exact q)

theorem s_mdepth {Θ : Th} {σ : Mem} (hour s : Int) (hh : rng hour) (hs : rng s) (h : InvC σ) (hR : Rel σ) : Spc Θ M_X8_depth 1 [.ref (Th.r Θ 1), .int (I hour), .int (I s)] σ (fun r σ' => FrM σ σ' ∧ r = if (0 ≤ hour ∧ hour < 50) ∧ (0 ≤ s ∧ s < σ 0 2) then dpH σ s.toNat hour else -2) := by
  refine Spc_of (by decide +kernel) (Nat.le_of_ble_eq_true rfl) (fun Γ hB hE => ?_)
  show Run Θ Γ 0 [(0, .ref (Th.r Θ 1)), (1, .int (I hour)), (2, .int (I s))] [] σ
  refine R_iload_n hB (j := 1) dX8_depth_0 rfl rfl ?_
  refine P_cS1 hB (s_misHour _ (by omega)) ms_X8_180 (by decide) dX8_depth_1 rfl rfl (Nat.le_of_ble_eq_true rfl) (fun z1 h1 => ?_)
  refine R_if_eq hB 24 (by rw [h1]; split <;> omega) dX8_depth_4 rfl (fun h4 => ?_) (fun h4 => ?_)
  · have hc : ¬ (0 ≤ hour ∧ hour < 50) := fun q => by
      rw [if_pos q] at h1
      omega
    refine R_bipush hB dX8_depth_24 rfl ?_
    exact R_iret hB hE rfl dX8_depth_26 (by
      first
      | exact ⟨f1.tr g1, by rw [if_pos ⟨hc, hd⟩]; exact g3⟩
      | exact ⟨f1, by rw [if_neg (fun q => hd q.2)]⟩
      | exact ⟨FrM.rf, by rw [if_neg (fun q => hc q.1)]⟩)
  · have hc : 0 ≤ hour ∧ hour < 50 := by
      by_cases q : 0 ≤ hour ∧ hour < 50
      · exact q
      · rw [if_neg q] at h1; omega
    refine R_aload_n hB (j := 0) dX8_depth_7 rfl rfl ?_
    refine R_iload_n hB (j := 2) dX8_depth_8 rfl rfl ?_
    refine R_cV1 hB (s_isSleeper _ hs h hR) mv_X8_136 rfl rfl (by decide) dX8_depth_9 rfl rfl (Nat.le_of_ble_eq_true rfl) (fun z9 σ1 h9 => ?_)
    obtain ⟨f1, f2, f3⟩ := h9
    have hns := h.ns
    refine R_if_eq hB 24 (by rw [f3]; split <;> omega) dX8_depth_12 rfl (fun h12 => ?_) (fun h12 => ?_)
    · have hd : ¬ (0 ≤ s ∧ s < σ 0 2) := fun q => by
        rw [if_pos q] at f3
        omega
      refine R_bipush hB dX8_depth_24 rfl ?_
      exact R_iret hB hE rfl dX8_depth_26 (by
        first
        | exact ⟨f1.tr g1, by rw [if_pos ⟨hc, hd⟩]; exact g3⟩
        | exact ⟨f1, by rw [if_neg (fun q => hd q.2)]⟩
        | exact ⟨FrM.rf, by rw [if_neg (fun q => hc q.1)]⟩)
    · have hd : 0 ≤ s ∧ s < σ 0 2 := by
        by_cases q : 0 ≤ s ∧ s < σ 0 2
        · exact q
        · rw [if_neg q] at f3; omega
      refine R_aload_n hB (j := 0) dX8_depth_15 rfl rfl ?_
      refine R_iload_n hB (j := 1) dX8_depth_16 rfl rfl ?_
      refine R_iload_n hB (j := 2) dX8_depth_17 rfl rfl ?_
      refine R_cV1 hB (s_depthOf _ _ hc (by rw [f1.1 0 (by decide)]; exact hd) f2.1 f2.2.1) mv_X8_183 rfl rfl (by decide) dX8_depth_18 rfl rfl (Nat.le_of_ble_eq_true rfl) (fun z18 σ2 h18 => ?_)
      obtain ⟨g1, g2, g3⟩ := h18
      rw [mm_dpH f1.1 (by omega)] at g3
      refine R_goto hB 26 dX8_depth_21 rfl ?_
      exact R_iret hB hE rfl dX8_depth_26 (by
        first
        | exact ⟨f1.tr g1, by rw [if_pos ⟨hc, hd⟩]; exact g3⟩
        | exact ⟨f1, by rw [if_neg (fun q => hd q.2)]⟩
        | exact ⟨FrM.rf, by rw [if_neg (fun q => hc q.1)]⟩)

theorem s_hearsOf {Θ : Th} {σ : Mem} (d s w : Int) (hd : 0 ≤ d ∧ d < σ 2 4) (hs : 0 ≤ s ∧ s < σ 0 2) (hw : rng w) (h : InvC σ) (hR : Rel σ) : Spc Θ M_X8_hearsOf 1 [.ref (Th.r Θ 1), .int (I d), .int (I s), .int (I w)] σ (fun r σ' => FrM σ σ' ∧ RR σ' ∧ r = cHe σ d s.toNat w) := by
  refine Spc_of (by decide +kernel) (Nat.le_of_ble_eq_true rfl) (fun Γ hB hE => ?_)
  show Run Θ Γ 0 [(0, .ref (Th.r Θ 1)), (1, .int (I d)), (2, .int (I s)), (3, .int (I w))] [] σ
  refine R_aload_n hB (j := 0) dX8_hearsOf_0 rfl rfl ?_
  refine R_cV0 hB (s_runsTold h hR) mv_X8_177 rfl rfl (by decide) dX8_hearsOf_1 rfl rfl (Nat.le_of_ble_eq_true rfl) (fun σ1 h1 => ?_)
  obtain ⟨f1, f2⟩ := h1
  have hns := h.ns
  have hds := h.row.1
  have r0 : σ1 0 = σ 0 := f1.1 0 (by decide)
  have r2 : σ1 2 = σ 2 := f1.1 2 (by decide)
  have r25 : σ1 25 = σ 25 := f1.1 25 (by decide)
  have n2 : σ1 1 2 = σ 0 2 := by rw [f2.1.2.2.1, r0]
  have n7 : σ1 1 7 = σ 2 4 := by rw [f2.1.2.2.2.1, r2]
  refine R_canon (fun hcn => ?_)
  have q := (f2.2.2.2 s.toNat (by rw [r0]; omega)).1 d hd.1 (by rw [r2]; exact hd.2)
  rw [show ((s.toNat : Nat) : Int) = s by omega] at q
  have qb := f2.1.2.2.2.2.1 s.toNat (by rw [r0]; omega)
  rw [show ((s.toNat : Nat) : Int) = s by omega] at qb
  have qd := f2.1.2.2.2.2.2 d hd.1 (by rw [r2]; exact hd.2)
  have hbd := f2.1.1.bed (s := s.toNat) (by rw [r0]; omega)
  have hrw := f2.1.1.row.2.1 d hd.1 (by rw [r2]; exact hd.2)
  unfold BedOK at hbd
  refine R_iload_n hB (j := 3) dX8_hearsOf_4 rfl rfl ?_
  refine R_if_ne hB 17 (by omega) dX8_hearsOf_5 rfl (fun h5 => ?_) (fun h5 => ?_)
  · refine R_iload_n hB (j := 3) dX8_hearsOf_17 rfl rfl ?_
    refine R_iconst hB dX8_hearsOf_18 ?_
    refine R_icmp_ne hB 36 (by omega) (by omega) dX8_hearsOf_19 rfl (fun h19 => ?_) (fun h19 => ?_)
    · refine R_aload_n hB (j := 0) dX8_hearsOf_36 rfl rfl ?_
      refine R_getr hB (65) fl_X8_47 dX8_hearsOf_37 rfl rfl ?_
      refine R_bipush hB dX8_hearsOf_40 rfl ?_
      refine R_iload_n hB (j := 1) dX8_hearsOf_42 rfl rfl ?_
      refine R_imul hB dX8_hearsOf_43 ?_
      refine R_iload_n hB (j := 2) dX8_hearsOf_44 rfl rfl ?_
      refine R_iadd hB dX8_hearsOf_45 ?_
      refine R_zald hB rfl (by omega) dX8_hearsOf_46 ?_
      refine R_if_eq hB 54 (by rw [q.2]; split <;> omega) dX8_hearsOf_47 rfl (fun h47 => ?_) (fun h47 => ?_)
      · refine R_iconst hB dX8_hearsOf_54 ?_
        exact R_iret hB hE rfl dX8_hearsOf_55 (by
          refine ⟨f1, f2.1, ?_⟩
          rw [cTS_mm f1.1 (by omega), cFT_mm f1.1 (by omega)] at q
          unfold cHe
          first
          | (rw [if_pos h5, h11, qb.1, qd.2.1, qd.2.2, f1.1 (8 + s.toNat) (by simp; omega), f1.1 34 (by decide), f1.1 35 (by decide)]; rfl)
          | (rw [if_neg h5, if_pos h19]; exact q.1)
          | (rw [if_neg h5, if_neg h19]
             cases hb : cTS σ s.toNat d with
             | true => rw [hb] at q; simp at q; first | rfl | omega
             | false => rw [hb] at q; simp at q; first | rfl | omega))
      · refine R_iconst hB dX8_hearsOf_50 ?_
        refine R_goto hB 55 dX8_hearsOf_51 rfl ?_
        exact R_iret hB hE rfl dX8_hearsOf_55 (by
          refine ⟨f1, f2.1, ?_⟩
          rw [cTS_mm f1.1 (by omega), cFT_mm f1.1 (by omega)] at q
          unfold cHe
          first
          | (rw [if_pos h5, h11, qb.1, qd.2.1, qd.2.2, f1.1 (8 + s.toNat) (by simp; omega), f1.1 34 (by decide), f1.1 35 (by decide)]; rfl)
          | (rw [if_neg h5, if_pos h19]; exact q.1)
          | (rw [if_neg h5, if_neg h19]
             cases hb : cTS σ s.toNat d with
             | true => rw [hb] at q; simp at q; first | rfl | omega
             | false => rw [hb] at q; simp at q; first | rfl | omega))
    · refine R_aload_n hB (j := 0) dX8_hearsOf_22 rfl rfl ?_
      refine R_getr hB (64) fl_X8_44 dX8_hearsOf_23 rfl rfl ?_
      refine R_bipush hB dX8_hearsOf_26 rfl ?_
      refine R_iload_n hB (j := 1) dX8_hearsOf_28 rfl rfl ?_
      refine R_imul hB dX8_hearsOf_29 ?_
      refine R_iload_n hB (j := 2) dX8_hearsOf_30 rfl rfl ?_
      refine R_iadd hB dX8_hearsOf_31 ?_
      refine R_iald hB rfl (by omega) dX8_hearsOf_32 ?_
      refine R_goto hB 55 dX8_hearsOf_33 rfl ?_
      exact R_iret hB hE rfl dX8_hearsOf_55 (by
        refine ⟨f1, f2.1, ?_⟩
        rw [cTS_mm f1.1 (by omega), cFT_mm f1.1 (by omega)] at q
        unfold cHe
        first
        | (rw [if_pos h5, h11, qb.1, qd.2.1, qd.2.2, f1.1 (8 + s.toNat) (by simp; omega), f1.1 34 (by decide), f1.1 35 (by decide)]; rfl)
        | (rw [if_neg h5, if_pos h19]; exact q.1)
        | (rw [if_neg h5, if_neg h19]
           cases hb : cTS σ s.toNat d with
           | true => rw [hb] at q; simp at q; first | rfl | omega
           | false => rw [hb] at q; simp at q; first | rfl | omega))
  · refine R_aload_n hB (j := 0) dX8_hearsOf_8 rfl rfl ?_
    refine R_iload_n hB (j := 1) dX8_hearsOf_9 rfl rfl ?_
    refine R_iload_n hB (j := 2) dX8_hearsOf_10 rfl rfl ?_
    refine P_cV1 hB (s_mloud _ _ (by omega) (by omega) (by rw [qb.1]; omega) (by rw [qd.2.1]; omega) (by rw [qd.2.2]; omega)) mv_X8_161 rfl rfl (by decide) dX8_hearsOf_11 rfl rfl (Nat.le_of_ble_eq_true rfl) (fun z11 h11 => ?_)
    refine R_goto hB 55 dX8_hearsOf_14 rfl ?_
    exact R_iret hB hE rfl dX8_hearsOf_55 (by
      refine ⟨f1, f2.1, ?_⟩
      rw [cTS_mm f1.1 (by omega), cFT_mm f1.1 (by omega)] at q
      unfold cHe
      first
      | (rw [if_pos h5, h11, qb.1, qd.2.1, qd.2.2, f1.1 (8 + s.toNat) (by simp; omega), f1.1 34 (by decide), f1.1 35 (by decide)]; rfl)
      | (rw [if_neg h5, if_pos h19]; exact q.1)
      | (rw [if_neg h5, if_neg h19]
         cases hb : cTS σ s.toNat d with
         | true => rw [hb] at q; simp at q; first | rfl | omega
         | false => rw [hb] at q; simp at q; first | rfl | omega))

theorem s_mhears {Θ : Th} {σ : Mem} (d s w : Int) (hd0 : rng d) (hs0 : rng s) (hw : rng w) (h : InvC σ) (hR : Rel σ) : Spc Θ M_X8_hears 1 [.ref (Th.r Θ 1), .int (I d), .int (I s), .int (I w)] σ (fun r σ' => FrM σ σ' ∧ r = if ((0 ≤ d ∧ d < σ 2 4) ∧ (0 ≤ s ∧ s < σ 0 2)) ∧ (0 ≤ w ∧ w < 3) then cHe σ d s.toNat w else -2) := by
  refine Spc_of (by decide +kernel) (Nat.le_of_ble_eq_true rfl) (fun Γ hB hE => ?_)
  show Run Θ Γ 0 [(0, .ref (Th.r Θ 1)), (1, .int (I d)), (2, .int (I s)), (3, .int (I w))] [] σ
  refine R_aload_n hB (j := 0) dX8_hears_0 rfl rfl ?_
  refine R_iload_n hB (j := 1) dX8_hears_1 rfl rfl ?_
  refine R_cV1 hB (s_isDeed _ hd0 h hR) mv_X8_142 rfl rfl (by decide) dX8_hears_2 rfl rfl (Nat.le_of_ble_eq_true rfl) (fun z2 σ1 h2 => ?_)
  obtain ⟨f1, f2, f3⟩ := h2
  have hns := h.ns
  have hds := h.row.1
  refine R_if_eq hB 35 (by rw [f3]; split <;> omega) dX8_hears_5 rfl (fun h5 => ?_) (fun h5 => ?_)
  · have hc : ¬ (0 ≤ d ∧ d < σ 2 4) := fun q => by
      rw [if_pos q] at f3
      omega
    refine R_bipush hB dX8_hears_35 rfl ?_
    exact R_iret hB hE rfl dX8_hears_37 (by
      first
      | exact ⟨fg.tr k1, by rw [if_pos (by omega)]; exact k3⟩
      | exact ⟨fg, by rw [if_neg (by omega)]⟩
      | exact ⟨f1, by rw [if_neg (by omega)]⟩)
  · have hc : 0 ≤ d ∧ d < σ 2 4 := by
      by_cases q : 0 ≤ d ∧ d < σ 2 4
      · exact q
      · rw [if_neg q] at f3; omega
    refine R_aload_n hB (j := 0) dX8_hears_8 rfl rfl ?_
    refine R_iload_n hB (j := 2) dX8_hears_9 rfl rfl ?_
    refine R_cV1 hB (s_isSleeper _ hs0 f2.1 f2.2.1) mv_X8_136 rfl rfl (by decide) dX8_hears_10 rfl rfl (Nat.le_of_ble_eq_true rfl) (fun z10 σ2 h10 => ?_)
    obtain ⟨g1, g2, g3⟩ := h10
    rw [f1.1 0 (by decide)] at g3
    have fg := f1.tr g1
    refine R_if_eq hB 35 (by rw [g3]; split <;> omega) dX8_hears_13 rfl (fun h13 => ?_) (fun h13 => ?_)
    · have hd : ¬ (0 ≤ s ∧ s < σ 0 2) := fun q => by
        rw [if_pos q] at g3
        omega
      refine R_bipush hB dX8_hears_35 rfl ?_
      exact R_iret hB hE rfl dX8_hears_37 (by
        first
        | exact ⟨fg.tr k1, by rw [if_pos (by omega)]; exact k3⟩
        | exact ⟨fg, by rw [if_neg (by omega)]⟩
        | exact ⟨f1, by rw [if_neg (by omega)]⟩)
    · have hd : 0 ≤ s ∧ s < σ 0 2 := by
        by_cases q : 0 ≤ s ∧ s < σ 0 2
        · exact q
        · rw [if_neg q] at g3; omega
      refine R_iload_n hB (j := 3) dX8_hears_16 rfl rfl ?_
      refine R_iconst hB dX8_hears_17 ?_
      refine R_iconst hB dX8_hears_18 ?_
      refine P_cS1 hB (s_in _ _ _ (by omega) (by omega) (by omega)) ms_X8_98 (by decide) dX8_hears_19 rfl rfl (Nat.le_of_ble_eq_true rfl) (fun z19 h19 => ?_)
      refine R_if_eq hB 35 (by rw [h19]; split <;> omega) dX8_hears_22 rfl (fun h22 => ?_) (fun h22 => ?_)
      · have he : ¬ (0 ≤ w ∧ w ≤ 2) := fun q => by
          rw [if_pos q] at h19
          omega
        refine R_bipush hB dX8_hears_35 rfl ?_
        exact R_iret hB hE rfl dX8_hears_37 (by
          first
          | exact ⟨fg.tr k1, by rw [if_pos (by omega)]; exact k3⟩
          | exact ⟨fg, by rw [if_neg (by omega)]⟩
          | exact ⟨f1, by rw [if_neg (by omega)]⟩)
      · have he : 0 ≤ w ∧ w ≤ 2 := by
          by_cases q : 0 ≤ w ∧ w ≤ 2
          · exact q
          · rw [if_neg q] at h19; omega
        refine R_aload_n hB (j := 0) dX8_hears_25 rfl rfl ?_
        refine R_iload_n hB (j := 1) dX8_hears_26 rfl rfl ?_
        refine R_iload_n hB (j := 2) dX8_hears_27 rfl rfl ?_
        refine R_iload_n hB (j := 3) dX8_hears_28 rfl rfl ?_
        refine R_cV1 hB (s_hearsOf _ _ _ (by rw [fg.1 2 (by decide)]; exact hc) (by rw [fg.1 0 (by decide)]; exact hd) hw g2.1 g2.2.1) mv_X8_186 rfl rfl (by decide) dX8_hears_29 rfl rfl (Nat.le_of_ble_eq_true rfl) (fun z29 σ3 h29 => ?_)
        obtain ⟨k1, k2, k3⟩ := h29
        rw [mm_cHe fg.1 (by omega)] at k3
        refine R_goto hB 37 dX8_hears_32 rfl ?_
        exact R_iret hB hE rfl dX8_hears_37 (by
          first
          | exact ⟨fg.tr k1, by rw [if_pos (by omega)]; exact k3⟩
          | exact ⟨fg, by rw [if_neg (by omega)]⟩
          | exact ⟨f1, by rw [if_neg (by omega)]⟩)

theorem s_proofOf {Θ : Th} {σ : Mem} (d w : Int) (hd : 0 ≤ d ∧ d < σ 2 4) (hw : rng w) (h : InvC σ) (hR : Rel σ) : Spc Θ M_X8_proofOf 1 [.ref (Th.r Θ 1), .int (I d), .int (I w)] σ (fun r σ' => FrM σ σ' ∧ RR σ' ∧ r = cPf σ d w) := by
  refine Spc_of (by decide +kernel) (Nat.le_of_ble_eq_true rfl) (fun Γ hB hE => ?_)
  show Run Θ Γ 0 [(0, .ref (Th.r Θ 1)), (1, .int (I d)), (2, .int (I w))] [] σ
  refine R_aload_n hB (j := 0) dX8_proofOf_0 rfl rfl ?_
  refine R_cV0 hB (s_runsTold h hR) mv_X8_177 rfl rfl (by decide) dX8_proofOf_1 rfl rfl (Nat.le_of_ble_eq_true rfl) (fun σ1 h1 => ?_)
  obtain ⟨f1, f2⟩ := h1
  have hns := h.ns
  have hds := h.row.1
  have r0 : σ1 0 = σ 0 := f1.1 0 (by decide)
  have r2 : σ1 2 = σ 2 := f1.1 2 (by decide)
  have r25 : σ1 25 = σ 25 := f1.1 25 (by decide)
  have n2 : σ1 1 2 = σ 0 2 := by rw [f2.1.2.2.1, r0]
  have n7 : σ1 1 7 = σ 2 4 := by rw [f2.1.2.2.2.1, r2]
  have q := f2.wh (d := d) (by rw [r2]; exact hd)
  rw [mm_cntT f1.1 hns.2, mm_bT f1.1 hns.2] at q
  have hbb := bsum_in (fun s => cTS σ s d) (σ 0 2).toNat
  have h256 := p2_256 (σ 0 2).toNat (by omega)
  have hcc := cnt_in (fun s => cTS σ s d) (σ 0 2).toNat
  have lw : σ1 1 13 = σ 25 2 := by rw [f2.lw, r25]
  have hlw := h.2.2.2.1.2.2
  refine R_aload_n hB (j := 0) dX8_proofOf_4 rfl rfl ?_
  refine R_iload_n hB (j := 1) dX8_proofOf_5 rfl rfl ?_
  refine P_cV1 hB (s_whoNow d (by omega) (by omega)) mv_X8_189 rfl rfl (by decide) dX8_proofOf_6 rfl rfl (Nat.le_of_ble_eq_true rfl) (fun z6 h6 => ?_)
  rw [q.2] at h6
  refine P_cS1 hB (s_ones _ (by rw [h6]; omega)) ms_X8_192 (by decide) dX8_proofOf_9 rfl rfl (Nat.le_of_ble_eq_true rfl) (fun z9 h9 => ?_)
  rw [h6, pc8_bsum _ (by omega)] at h9
  refine R_istore_n hB (L' := [_, _, _, _]) dX8_proofOf_12 rfl (Nat.le_of_ble_eq_true rfl) rfl ?_
  refine R_iload_n hB (j := 3) dX8_proofOf_13 rfl rfl ?_
  refine R_if_ne hB 25 (by omega) dX8_proofOf_14 rfl (fun h14 => ?_) (fun h14 => ?_)
  · refine R_iload_n hB (j := 3) dX8_proofOf_25 rfl rfl ?_
    refine R_iconst hB dX8_proofOf_26 ?_
    refine R_icmp_ne hB 46 (by omega) (by omega) dX8_proofOf_27 rfl (fun h27 => ?_) (fun h27 => ?_)
    · refine R_iload_n hB (j := 0) dX8_proofOf_46 rfl rfl ?_
      refine R_aload_n hB (j := 1) dX8_proofOf_47 rfl rfl ?_
      refine R_geti hB fl_X8_93 dX8_proofOf_48 rfl ?_
      refine R_icmp_lt hB 58 (by omega) (by rw [lw]; omega) dX8_proofOf_51 rfl (fun h51 => ?_) (fun h51 => ?_)
      · rw [lw] at h51
        refine R_aload_n hB (j := 1) dX8_proofOf_58 rfl rfl ?_
        refine R_geti hB fl_X8_93 dX8_proofOf_59 rfl ?_
        refine R_iload_n hB (j := 0) dX8_proofOf_62 rfl rfl ?_
        refine R_isub hB dX8_proofOf_63 ?_
        exact R_iret hB hE rfl dX8_proofOf_64 (by
          refine ⟨f1, f2.1, ?_⟩
          unfold cPf
          first
          | (rw [if_pos h14]; exact h19)
          | (rw [if_neg h14, if_pos h27, ← h9, if_pos h35])
          | (rw [if_neg h14, if_pos h27, ← h9, if_neg (by omega)])
          | (rw [if_neg h14, if_neg h27, ← h9]; omega)
          | (rw [if_neg h14, if_neg h27, ← h9, lw]; omega))
      · rw [lw] at h51
        refine R_iconst hB dX8_proofOf_54 ?_
        refine R_goto hB 64 dX8_proofOf_55 rfl ?_
        exact R_iret hB hE rfl dX8_proofOf_64 (by
          refine ⟨f1, f2.1, ?_⟩
          unfold cPf
          first
          | (rw [if_pos h14]; exact h19)
          | (rw [if_neg h14, if_pos h27, ← h9, if_pos h35])
          | (rw [if_neg h14, if_pos h27, ← h9, if_neg (by omega)])
          | (rw [if_neg h14, if_neg h27, ← h9]; omega)
          | (rw [if_neg h14, if_neg h27, ← h9, lw]; omega))
    · refine R_iload_n hB (j := 0) dX8_proofOf_30 rfl rfl ?_
      refine R_aload_n hB (j := 1) dX8_proofOf_31 rfl rfl ?_
      refine R_geti hB fl_X8_93 dX8_proofOf_32 rfl ?_
      refine R_icmp_lt hB 42 (by omega) (by rw [lw]; omega) dX8_proofOf_35 rfl (fun h35 => ?_) (fun h35 => ?_)
      · rw [lw] at h35
        refine R_iconst hB dX8_proofOf_42 ?_
        refine R_goto hB 64 dX8_proofOf_43 rfl ?_
        exact R_iret hB hE rfl dX8_proofOf_64 (by
          refine ⟨f1, f2.1, ?_⟩
          unfold cPf
          first
          | (rw [if_pos h14]; exact h19)
          | (rw [if_neg h14, if_pos h27, ← h9, if_pos h35])
          | (rw [if_neg h14, if_pos h27, ← h9, if_neg (by omega)])
          | (rw [if_neg h14, if_neg h27, ← h9]; omega)
          | (rw [if_neg h14, if_neg h27, ← h9, lw]; omega))
      · rw [lw] at h35
        refine R_iconst hB dX8_proofOf_38 ?_
        refine R_goto hB 64 dX8_proofOf_39 rfl ?_
        exact R_iret hB hE rfl dX8_proofOf_64 (by
          refine ⟨f1, f2.1, ?_⟩
          unfold cPf
          first
          | (rw [if_pos h14]; exact h19)
          | (rw [if_neg h14, if_pos h27, ← h9, if_pos h35])
          | (rw [if_neg h14, if_pos h27, ← h9, if_neg (by omega)])
          | (rw [if_neg h14, if_neg h27, ← h9]; omega)
          | (rw [if_neg h14, if_neg h27, ← h9, lw]; omega))
  · refine R_aload_n hB (j := 1) dX8_proofOf_17 rfl rfl ?_
    refine R_iload_n hB (j := 2) dX8_proofOf_18 rfl rfl ?_
    refine P_cV1 hB (s_whoNow d (by omega) (by omega)) mv_X8_189 rfl rfl (by decide) dX8_proofOf_19 rfl rfl (Nat.le_of_ble_eq_true rfl) (fun z19 h19 => ?_)
    rw [q.2] at h19
    refine R_goto hB 64 dX8_proofOf_22 rfl ?_
    exact R_iret hB hE rfl dX8_proofOf_64 (by
      refine ⟨f1, f2.1, ?_⟩
      unfold cPf
      first
      | (rw [if_pos h14]; exact h19)
      | (rw [if_neg h14, if_pos h27, ← h9, if_pos h35])
      | (rw [if_neg h14, if_pos h27, ← h9, if_neg (by omega)])
      | (rw [if_neg h14, if_neg h27, ← h9]; omega)
      | (rw [if_neg h14, if_neg h27, ← h9, lw]; omega))

theorem s_mproof {Θ : Th} {σ : Mem} (d w : Int) (hd0 : rng d) (hw : rng w) (h : InvC σ) (hR : Rel σ) : Spc Θ M_X8_proof 1 [.ref (Th.r Θ 1), .int (I d), .int (I w)] σ (fun r σ' => FrM σ σ' ∧ r = if (0 ≤ d ∧ d < σ 2 4) ∧ (0 ≤ w ∧ w < 3) then cPf σ d w else -2) := by
  refine Spc_of (by decide +kernel) (Nat.le_of_ble_eq_true rfl) (fun Γ hB hE => ?_)
  show Run Θ Γ 0 [(0, .ref (Th.r Θ 1)), (1, .int (I d)), (2, .int (I w))] [] σ
  refine R_aload_n hB (j := 0) dX8_proof_0 rfl rfl ?_
  refine R_iload_n hB (j := 1) dX8_proof_1 rfl rfl ?_
  refine R_cV1 hB (s_isDeed _ hd0 h hR) mv_X8_142 rfl rfl (by decide) dX8_proof_2 rfl rfl (Nat.le_of_ble_eq_true rfl) (fun z2 σ1 h2 => ?_)
  obtain ⟨f1, f2, f3⟩ := h2
  have hns := h.ns
  have hds := h.row.1
  refine R_if_eq hB 26 (by rw [f3]; split <;> omega) dX8_proof_5 rfl (fun h5 => ?_) (fun h5 => ?_)
  · have hc : ¬ (0 ≤ d ∧ d < σ 2 4) := fun q => by
      rw [if_pos q] at f3
      omega
    refine R_bipush hB dX8_proof_26 rfl ?_
    exact R_iret hB hE rfl dX8_proof_28 (by
      first
      | exact ⟨f1.tr k1, by rw [if_pos (by omega)]; exact k3⟩
      | exact ⟨f1, by rw [if_neg (by omega)]⟩)
  · have hc : 0 ≤ d ∧ d < σ 2 4 := by
      by_cases q : 0 ≤ d ∧ d < σ 2 4
      · exact q
      · rw [if_neg q] at f3; omega
    refine R_iload_n hB (j := 2) dX8_proof_8 rfl rfl ?_
    refine R_iconst hB dX8_proof_9 ?_
    refine R_iconst hB dX8_proof_10 ?_
    refine P_cS1 hB (s_in _ _ _ (by omega) (by omega) (by omega)) ms_X8_98 (by decide) dX8_proof_11 rfl rfl (Nat.le_of_ble_eq_true rfl) (fun z11 h11 => ?_)
    refine R_if_eq hB 26 (by rw [h11]; split <;> omega) dX8_proof_14 rfl (fun h14 => ?_) (fun h14 => ?_)
    · have hd : ¬ (0 ≤ w ∧ w ≤ 2) := fun q => by
        rw [if_pos q] at h11
        omega
      refine R_bipush hB dX8_proof_26 rfl ?_
      exact R_iret hB hE rfl dX8_proof_28 (by
        first
        | exact ⟨f1.tr k1, by rw [if_pos (by omega)]; exact k3⟩
        | exact ⟨f1, by rw [if_neg (by omega)]⟩)
    · have hd : 0 ≤ w ∧ w ≤ 2 := by
        by_cases q : 0 ≤ w ∧ w ≤ 2
        · exact q
        · rw [if_neg q] at h11; omega
      refine R_aload_n hB (j := 0) dX8_proof_17 rfl rfl ?_
      refine R_iload_n hB (j := 1) dX8_proof_18 rfl rfl ?_
      refine R_iload_n hB (j := 2) dX8_proof_19 rfl rfl ?_
      refine R_cV1 hB (s_proofOf _ _ (by rw [f1.1 2 (by decide)]; exact hc) hw f2.1 f2.2.1) mv_X8_195 rfl rfl (by decide) dX8_proof_20 rfl rfl (Nat.le_of_ble_eq_true rfl) (fun z20 σ2 h20 => ?_)
      obtain ⟨k1, k2, k3⟩ := h20
      rw [mm_cPf f1.1 hns.2] at k3
      refine R_goto hB 28 dX8_proof_23 rfl ?_
      exact R_iret hB hE rfl dX8_proof_28 (by
        first
        | exact ⟨f1.tr k1, by rw [if_pos (by omega)]; exact k3⟩
        | exact ⟨f1, by rw [if_neg (by omega)]⟩)

def cNt (σ : Mem) (s : Nat) (w : Int) : Int := if w = 0 then cWk σ s else cMany σ s
theorem s_nightsOf {Θ : Th} {σ : Mem} (s w : Int) (hs : 0 ≤ s ∧ s < σ 0 2) (hw : rng w) (h : InvC σ) (hR : Rel σ) : Spc Θ M_X8_nightsOf 1 [.ref (Th.r Θ 1), .int (I s), .int (I w)] σ (fun r σ' => FrM σ σ' ∧ RR σ' ∧ r = cNt σ s.toNat w) := by
  refine Spc_of (by decide +kernel) (Nat.le_of_ble_eq_true rfl) (fun Γ hB hE => ?_)
  show Run Θ Γ 0 [(0, .ref (Th.r Θ 1)), (1, .int (I s)), (2, .int (I w))] [] σ
  refine R_aload_n hB (j := 0) dX8_nightsOf_0 rfl rfl ?_
  refine R_cV0 hB (s_runsTold h hR) mv_X8_177 rfl rfl (by decide) dX8_nightsOf_1 rfl rfl (Nat.le_of_ble_eq_true rfl) (fun σ1 h1 => ?_)
  obtain ⟨f1, f2⟩ := h1
  have hns := h.ns
  have hds := h.row.1
  have r0 : σ1 0 = σ 0 := f1.1 0 (by decide)
  have r2 : σ1 2 = σ 2 := f1.1 2 (by decide)
  have r25 : σ1 25 = σ 25 := f1.1 25 (by decide)
  have n2 : σ1 1 2 = σ 0 2 := by rw [f2.1.2.2.1, r0]
  have n7 : σ1 1 7 = σ 2 4 := by rw [f2.1.2.2.2.1, r2]
  have q := (f2.2.2.2 s.toNat (by rw [r0]; omega)).2.2
  have q2 := f2.many (s := s.toNat) (by rw [r0]; omega)
  rw [show ((s.toNat : Nat) : Int) = s by omega] at q q2
  rw [mm_cWk f1.1 (by omega)] at q
  rw [mm_many f1.1 (by omega)] at q2
  refine R_iload_n hB (j := 2) dX8_nightsOf_4 rfl rfl ?_
  refine R_if_ne hB 17 (by omega) dX8_nightsOf_5 rfl (fun h5 => ?_) (fun h5 => ?_)
  · refine R_aload_n hB (j := 0) dX8_nightsOf_17 rfl rfl ?_
    refine R_iload_n hB (j := 1) dX8_nightsOf_18 rfl rfl ?_
    refine P_cV1 hB (s_manyOf s (by omega) (by omega)) mv_X8_198 rfl rfl (by decide) dX8_nightsOf_19 rfl rfl (Nat.le_of_ble_eq_true rfl) (fun z19 h19 => ?_)
    exact R_iret hB hE rfl dX8_nightsOf_22 (by
      refine ⟨f1, f2.1, ?_⟩
      unfold cNt
      first
      | (rw [if_pos h5]; exact q)
      | (rw [if_neg h5, h19]; exact q2))
  · refine R_aload_n hB (j := 0) dX8_nightsOf_8 rfl rfl ?_
    refine R_getr hB (66) fl_X8_50 dX8_nightsOf_9 rfl rfl ?_
    refine R_iload_n hB (j := 1) dX8_nightsOf_12 rfl rfl ?_
    refine R_iald hB rfl (by omega) dX8_nightsOf_13 ?_
    refine R_goto hB 22 dX8_nightsOf_14 rfl ?_
    exact R_iret hB hE rfl dX8_nightsOf_22 (by
      refine ⟨f1, f2.1, ?_⟩
      unfold cNt
      first
      | (rw [if_pos h5]; exact q)
      | (rw [if_neg h5, h19]; exact q2))

theorem s_mnights {Θ : Th} {σ : Mem} (s w : Int) (hs0 : rng s) (hw : rng w) (h : InvC σ) (hR : Rel σ) : Spc Θ M_X8_nights 1 [.ref (Th.r Θ 1), .int (I s), .int (I w)] σ (fun r σ' => FrM σ σ' ∧ r = if (0 ≤ s ∧ s < σ 0 2) ∧ (0 ≤ w ∧ w < 2) then cNt σ s.toNat w else -2) := by
  refine Spc_of (by decide +kernel) (Nat.le_of_ble_eq_true rfl) (fun Γ hB hE => ?_)
  show Run Θ Γ 0 [(0, .ref (Th.r Θ 1)), (1, .int (I s)), (2, .int (I w))] [] σ
  refine R_aload_n hB (j := 0) dX8_nights_0 rfl rfl ?_
  refine R_iload_n hB (j := 1) dX8_nights_1 rfl rfl ?_
  refine R_cV1 hB (s_isSleeper _ hs0 h hR) mv_X8_136 rfl rfl (by decide) dX8_nights_2 rfl rfl (Nat.le_of_ble_eq_true rfl) (fun z2 σ1 h2 => ?_)
  obtain ⟨f1, f2, f3⟩ := h2
  have hns := h.ns
  have hds := h.row.1
  refine R_if_eq hB 26 (by rw [f3]; split <;> omega) dX8_nights_5 rfl (fun h5 => ?_) (fun h5 => ?_)
  · have hc : ¬ (0 ≤ s ∧ s < σ 0 2) := fun q => by
      rw [if_pos q] at f3
      omega
    refine R_bipush hB dX8_nights_26 rfl ?_
    exact R_iret hB hE rfl dX8_nights_28 (by
      first
      | exact ⟨f1.tr k1, by rw [if_pos (by omega)]; exact k3⟩
      | exact ⟨f1, by rw [if_neg (by omega)]⟩)
  · have hc : 0 ≤ s ∧ s < σ 0 2 := by
      by_cases q : 0 ≤ s ∧ s < σ 0 2
      · exact q
      · rw [if_neg q] at f3; omega
    refine R_iload_n hB (j := 2) dX8_nights_8 rfl rfl ?_
    refine R_iconst hB dX8_nights_9 ?_
    refine R_iconst hB dX8_nights_10 ?_
    refine P_cS1 hB (s_in _ _ _ (by omega) (by omega) (by omega)) ms_X8_98 (by decide) dX8_nights_11 rfl rfl (Nat.le_of_ble_eq_true rfl) (fun z11 h11 => ?_)
    refine R_if_eq hB 26 (by rw [h11]; split <;> omega) dX8_nights_14 rfl (fun h14 => ?_) (fun h14 => ?_)
    · have hd : ¬ (0 ≤ w ∧ w ≤ 1) := fun q => by
        rw [if_pos q] at h11
        omega
      refine R_bipush hB dX8_nights_26 rfl ?_
      exact R_iret hB hE rfl dX8_nights_28 (by
        first
        | exact ⟨f1.tr k1, by rw [if_pos (by omega)]; exact k3⟩
        | exact ⟨f1, by rw [if_neg (by omega)]⟩)
    · have hd : 0 ≤ w ∧ w ≤ 1 := by
        by_cases q : 0 ≤ w ∧ w ≤ 1
        · exact q
        · rw [if_neg q] at h11; omega
      refine R_aload_n hB (j := 0) dX8_nights_17 rfl rfl ?_
      refine R_iload_n hB (j := 1) dX8_nights_18 rfl rfl ?_
      refine R_iload_n hB (j := 2) dX8_nights_19 rfl rfl ?_
      refine R_cV1 hB (s_nightsOf _ _ (by rw [f1.1 0 (by decide)]; exact hc) hw f2.1 f2.2.1) mv_X8_201 rfl rfl (by decide) dX8_nights_20 rfl rfl (Nat.le_of_ble_eq_true rfl) (fun z20 σ2 h20 => ?_)
      obtain ⟨k1, k2, k3⟩ := h20
      unfold cNt at k3
      rw [mm_cWk f1.1 (by omega), mm_many f1.1 (by omega)] at k3
      refine R_goto hB 28 dX8_nights_23 rfl ?_
      exact R_iret hB hE rfl dX8_nights_28 (by
        first
        | exact ⟨f1.tr k1, by rw [if_pos (by omega)]; exact k3⟩
        | exact ⟨f1, by rw [if_neg (by omega)]⟩)

theorem s_bestNow {Θ : Th} {σ : Mem} (h : InvC σ) (hR : Rel σ) : Spc Θ M_X8_bestNow 1 [.ref (Th.r Θ 1)] σ (fun r σ' => FrM σ σ' ∧ RR σ' ∧ r = amx (cMany σ) (σ 0 2).toNat) := by
  refine Spc_of (by decide +kernel) (Nat.le_of_ble_eq_true rfl) (fun Γ hB hE => ?_)
  show Run Θ Γ 0 [(0, .ref (Th.r Θ 1))] [] σ
  refine R_aload_n hB (j := 0) dX8_bestNow_0 rfl rfl ?_
  refine R_cV0 hB (s_runsTold h hR) mv_X8_177 rfl rfl (by decide) dX8_bestNow_1 rfl rfl (Nat.le_of_ble_eq_true rfl) (fun σ1 h1 => ?_)
  obtain ⟨f1, f2⟩ := h1
  have hns := h.ns
  have hds := h.row.1
  have r0 : σ1 0 = σ 0 := f1.1 0 (by decide)
  have r2 : σ1 2 = σ 2 := f1.1 2 (by decide)
  have r25 : σ1 25 = σ 25 := f1.1 25 (by decide)
  have n2 : σ1 1 2 = σ 0 2 := by rw [f2.1.2.2.1, r0]
  have n7 : σ1 1 7 = σ 2 4 := by rw [f2.1.2.2.2.1, r2]
  have q2 : ∀ s : Int, 0 ≤ s → s < σ 0 2 → mnN σ1 s = cMany σ s.toNat := fun s s1 s2 => by
    have := f2.many (s := s.toNat) (by rw [r0]; omega)
    rw [show ((s.toNat : Nat) : Int) = s by omega, mm_many f1.1 (by omega)] at this
    exact this
  refine R_iconst hB dX8_bestNow_4 ?_
  refine R_istore_n hB (L' := [_, _]) dX8_bestNow_5 rfl (Nat.le_of_ble_eq_true rfl) rfl ?_
  refine R_iconst hB dX8_bestNow_6 ?_
  refine R_istore_n hB (L' := [_, _, _]) dX8_bestNow_7 rfl (Nat.le_of_ble_eq_true rfl) rfl ?_
  have lp_8 : ∀ (n_8 : Nat) (b k : Int), ((σ 0 2 - k).toNat) < n_8 → (0 ≤ k ∧ k ≤ σ 0 2) → (b = amx (cMany σ) k.toNat) → Run Θ Γ 8 [(0, .ref (Th.r Θ 1)), (1, .int (I b)), (2, .int (I k))] [] σ1 := by
    intro n_8
    induction n_8 with
    | zero => intro b k h_m; exact absurd h_m (Nat.not_lt_zero _)
    | succ n_8 ih_8 =>
      intro b k h_m hk hb
      have hbr : -1 ≤ b ∧ b ≤ k := by
        have hA := amx_amv (f := cMany σ) (n := k.toNat) (fun j _ => (cMany_in σ j).1)
        rw [hb]
        by_cases c : k = 0
        · rw [c, show amx (cMany σ) (Int.toNat 0) = -1 from rfl]; omega
        · have := hA.2 (by omega); omega
      refine R_iload_n hB (j := 2) dX8_bestNow_8 rfl rfl ?_
      refine R_aload_n hB (j := 0) dX8_bestNow_9 rfl rfl ?_
      refine R_geti hB fl_X8_114 dX8_bestNow_10 rfl ?_
      refine R_icmp_ge hB 46 (by omega) (by rw [n2]; omega) dX8_bestNow_13 rfl (fun h13 => ?_) (fun h13 => ?_)
      · rw [n2] at h13
        refine R_iload_n hB (j := 1) dX8_bestNow_46 rfl rfl ?_
        exact R_iret hB hE rfl dX8_bestNow_47 (⟨f1, f2.1, by rw [hb]; congr 1; omega⟩)
      · rw [n2] at h13
        have hA := amx_amv (f := cMany σ) (n := k.toNat) (fun j _ => (cMany_in σ j).1)
        refine R_iload_n hB (j := 1) dX8_bestNow_16 rfl rfl ?_
        refine R_iconst hB dX8_bestNow_17 ?_
        have jn_39 : ∀ (x : Int), (x = amx (cMany σ) (k + 1).toNat) → Run Θ Γ 39 [(0, .ref (Th.r Θ 1)), (1, .int (I b)), (2, .int (I k))] [.int (I x)] σ1 := by
          intro x hx
          refine R_istore_n hB (L' := [_, _, _]) dX8_bestNow_39 rfl (Nat.le_of_ble_eq_true rfl) rfl ?_
          refine R_iinc hB (j := 2) (L' := [_, _, _]) dX8_bestNow_40 rfl (Nat.le_of_ble_eq_true rfl) rfl ?_
          refine R_goto hB 8 dX8_bestNow_43 rfl ?_
          exact R_sub [2, 1, 0] rfl (ih_8 _ _ (by omega) (by omega) hx)
        refine R_icmp_eq hB 34 (by omega) (by omega) dX8_bestNow_18 rfl (fun h18 => ?_) (fun h18 => ?_)
        · refine R_iload_n hB (j := 2) dX8_bestNow_34 rfl rfl ?_
          refine R_goto hB 39 dX8_bestNow_35 rfl ?_
          exact R_sub [0, 1, 2] rfl (jn_39 _ (by
            rw [show (k + 1).toNat = k.toNat + 1 by omega]
            simp only [amx]
            rw [← hb, if_pos (by first | exact Or.inl h18 | exact Or.inr (by omega))]; omega))
        · refine R_aload_n hB (j := 0) dX8_bestNow_21 rfl rfl ?_
          refine R_iload_n hB (j := 2) dX8_bestNow_22 rfl rfl ?_
          refine P_cV1 hB (s_manyOf k (by omega) (by omega)) mv_X8_198 rfl rfl (by decide) dX8_bestNow_23 rfl rfl (Nat.le_of_ble_eq_true rfl) (fun z23 h23 => ?_)
          rw [q2 k hk.1 h13] at h23
          have hb0 : 0 ≤ b ∧ b < k := by
            rw [hb]
            by_cases c : k = 0
            · exfalso
              apply h18
              rw [hb, c]; rfl
            · have := hA.2 (by omega); omega
          refine R_aload_n hB (j := 0) dX8_bestNow_26 rfl rfl ?_
          refine R_iload_n hB (j := 1) dX8_bestNow_27 rfl rfl ?_
          refine P_cV1 hB (s_manyOf b (by omega) (by omega)) mv_X8_198 rfl rfl (by decide) dX8_bestNow_28 rfl rfl (Nat.le_of_ble_eq_true rfl) (fun z28 h28 => ?_)
          rw [q2 b hb0.1 (by omega)] at h28
          refine R_icmp_le hB 38 (by rw [h23]; have := cMany_in σ k.toNat; omega) (by rw [h28]; have := cMany_in σ b.toNat; omega) dX8_bestNow_31 rfl (fun h31 => ?_) (fun h31 => ?_)
          · refine R_iload_n hB (j := 1) dX8_bestNow_38 rfl rfl ?_
            exact R_sub [0, 1, 2] rfl (jn_39 _ (by
              rw [show (k + 1).toNat = k.toNat + 1 by omega]
              simp only [amx]
              rw [← hb, if_neg (by omega)]))
          · refine R_iload_n hB (j := 2) dX8_bestNow_34 rfl rfl ?_
            refine R_goto hB 39 dX8_bestNow_35 rfl ?_
            exact R_sub [0, 1, 2] rfl (jn_39 _ (by
              rw [show (k + 1).toNat = k.toNat + 1 by omega]
              simp only [amx]
              rw [← hb, if_pos (by first | exact Or.inl h18 | exact Or.inr (by omega))]; omega))
  exact R_sub [2, 1, 0] rfl (lp_8 _ _ _ (Nat.lt_succ_self _) (by omega) rfl)

theorem s_mbest {Θ : Th} {σ : Mem} (h : InvC σ) (hR : Rel σ) : Spc Θ M_X8_best 1 [.ref (Th.r Θ 1)] σ (fun r σ' => FrM σ σ' ∧ RR σ' ∧ r = amx (cMany σ) (σ 0 2).toNat) := by
  refine Spc_of (by decide +kernel) (Nat.le_of_ble_eq_true rfl) (fun Γ hB hE => ?_)
  show Run Θ Γ 0 [(0, .ref (Th.r Θ 1))] [] σ
  refine R_aload_n hB (j := 0) dX8_best_0 rfl rfl ?_
  refine R_cV1 hB (s_bestNow h hR) mv_X8_204 rfl rfl (by decide) dX8_best_1 rfl rfl (Nat.le_of_ble_eq_true rfl) (fun z1 σ1 h1 => ?_)
  exact R_iret hB hE rfl dX8_best_4 (h1)
