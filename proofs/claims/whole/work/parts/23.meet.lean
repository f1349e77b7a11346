theorem s_lieDown {Θ : Th} {σ : Mem} (o : Nat) (ho : clsOf o = 4) (hb : 0 ≤ σ o 1 ∧ σ o 1 ≤ 9) : Spc Θ M_X2_lieDown 0 [.ref (Th.r Θ 5), .ref (Th.r Θ o)] σ (fun z σ' => LieQ σ σ' (σ o 1)) := by
  refine Spc_of (by decide +kernel) (Nat.le_of_ble_eq_true rfl) (fun Γ hB hE => ?_)
  show Run Θ Γ 0 [(0, .ref (Th.r Θ 5)), (1, .ref (Th.r Θ o))] [] σ
  refine R_aload_n hB (j := 0) dX2_lieDown_0 rfl rfl ?_
  refine R_aload_n hB (j := 1) dX2_lieDown_1 rfl rfl ?_
  refine R_geti hB fl_X2_71 dX2_lieDown_2 ho ?_
  refine N_puti hB fp_X2_60 dX2_lieDown_5 rfl (by omega) (fun σ1 e1 => ?_)
  refine R_aload_n hB (j := 0) dX2_lieDown_8 rfl rfl ?_
  refine R_lconst hB (z := 0) dX2_lieDown_9 rfl ?_
  refine N_putl hB fp_X2_74 dX2_lieDown_10 (by omega) (fun σ2 e2 => ?_)
  refine R_aload_n hB (j := 0) dX2_lieDown_13 rfl rfl ?_
  refine R_iconst hB dX2_lieDown_14 ?_
  refine N_puti hB fp_X2_78 dX2_lieDown_15 rfl (by omega) (fun σ3 e3 => ?_)
  refine R_aload_n hB (j := 0) dX2_lieDown_18 rfl rfl ?_
  refine R_iconst hB dX2_lieDown_19 ?_
  refine N_puti hB fp_X2_81 dX2_lieDown_20 rfl (by omega) (fun σ4 e4 => ?_)
  refine R_aload_n hB (j := 0) dX2_lieDown_23 rfl rfl ?_
  refine R_getr hB (47) fl_X2_21 dX2_lieDown_24 rfl rfl ?_
  refine R_iconst hB dX2_lieDown_27 ?_
  refine R_cS0 hB (s_fill 47 4 _ (by omega) rfl) ms_X2_84 (by decide) dX2_lieDown_28 rfl rfl (Nat.le_of_ble_eq_true rfl) (fun σ5 h28 => ?_)
  exact R_vret hB hE rfl dX2_lieDown_31 (by
    subst e1 e2 e3 e4 h28
    refine ⟨fun i hi => ?_, ?_, ?_, ?_, ?_, ?_, fun s h1 h2 => ?_⟩
    · simp only [List.mem_cons, List.not_mem_nil, or_false, not_or] at hi
      funext k
      simp [fillM, up, hi]
    · simp [fillM, up]
    · simp [fillM, up]
    · simp [fillM, up]
    · simp [fillM, up]
    · simp [fillM, up]
    · simp [fillM, h1, h2])

theorem s_meet_2 {Θ : Th} {σ : Mem} (o : Nat) (ho : clsOf o = 4) (d : Int) (hd : 0 ≤ d ∧ d < 8) (hz : BedOK (σ o)) (hw : (0 ≤ σ 33 d ∧ σ 33 d < 50) ∧ (0 ≤ σ 34 d ∧ σ 34 d ≤ 9) ∧ (0 ≤ σ 35 d ∧ σ 35 d < 4)) (hl : 0 ≤ σ 5 7 ∧ σ 5 7 < 53) (hm : 0 ≤ σ 5 4 ∧ σ 5 4 < 8) (hk : 0 ≤ σ 5 5 ∧ σ 5 5 < 8) (hs : ∀ s, 0 ≤ s → s < 4 → 0 ≤ σ 47 s ∧ σ 47 s < 8) (hb : 0 ≤ σ 5 8 ∧ σ 5 8 < 1125899906842624) : Spc Θ M_X2_meet 0 [.ref (Th.r Θ 5), .ref (Th.r Θ o), .ref (Th.r Θ 2), .int (I d)] σ (fun z σ' => MeetQ σ σ' (σ o) (σ 33) (σ 34) (σ 35) d) := by
  refine Spc_of (by decide +kernel) (Nat.le_of_ble_eq_true rfl) (fun Γ hB hE => ?_)
  show Run Θ Γ 0 [(0, .ref (Th.r Θ 5)), (1, .ref (Th.r Θ o)), (2, .ref (Th.r Θ 2)), (3, .int (I d))] [] σ
  obtain ⟨hz0, hz1, hz2, hz3⟩ := hz
  have ho7 := cls4 ho
  refine R_aload_n hB (j := 2) dX2_meet_0 rfl rfl ?_
  refine R_getr hB (33) fl_X2_44 dX2_meet_1 rfl rfl ?_
  refine R_iload_n hB (j := 3) dX2_meet_4 rfl rfl ?_
  refine R_iald hB rfl (by omega) dX2_meet_5 ?_
  refine R_istore hB (L' := [_, _, _, _, _]) dX2_meet_6 (Nat.le_of_ble_eq_true rfl) rfl ?_
  refine R_aload_n hB (j := 1) dX2_meet_8 rfl rfl ?_
  refine R_getr hB (44) fl_X2_9 dX2_meet_9 rfl rfl ?_
  refine R_iload_n hB (j := 4) dX2_meet_12 rfl rfl ?_
  refine R_aload_n hB (j := 2) dX2_meet_13 rfl rfl ?_
  refine R_geti hB fl_X2_51 dX2_meet_14 ho ?_
  refine R_aload_n hB (j := 3) dX2_meet_17 rfl rfl ?_
  refine R_getr hB (34) fl_X2_90 dX2_meet_18 rfl rfl ?_
  refine R_iload_n hB (j := 4) dX2_meet_21 rfl rfl ?_
  refine R_iald hB rfl (by omega) dX2_meet_22 ?_
  refine R_aload_n hB (j := 3) dX2_meet_23 rfl rfl ?_
  refine R_getr hB (35) fl_X2_92 dX2_meet_24 rfl rfl ?_
  refine R_iload_n hB (j := 4) dX2_meet_27 rfl rfl ?_
  refine R_iald hB rfl (by omega) dX2_meet_28 ?_
  refine P_cS1 hB (s_loudAt _ _ _ (by omega) (by omega) (by omega)) ms_X2_56 (by decide) dX2_meet_29 rfl rfl (Nat.le_of_ble_eq_true rfl) (fun z29 h29 => ?_)
  have hq := loudOf_in (ho := σ o 0) (fr := σ 34 d) (so := σ 35 d) (by omega)
  rw [← h29] at hq
  refine N_iast hB rfl (by omega) (by omega) dX2_meet_32 (fun σ1 e1 => ?_)
  have q1 : σ1 o = σ o := by rw [e1]; exact up_row (by omega)
  have q2 : σ1 5 = σ 5 := by rw [e1]; exact up_row (by decide)
  refine R_aload_n hB (j := 1) dX2_meet_33 rfl rfl ?_
  refine R_getr hB (45) fl_X2_15 dX2_meet_34 rfl rfl ?_
  refine R_iload_n hB (j := 4) dX2_meet_37 rfl rfl ?_
  refine R_aload_n hB (j := 2) dX2_meet_38 rfl rfl ?_
  refine R_iload hB (j := 0) dX2_meet_39 rfl ?_
  refine R_aload_n hB (j := 1) dX2_meet_41 rfl rfl ?_
  refine R_geti hB fl_X2_60 dX2_meet_42 rfl ?_
  refine R_isub hB dX2_meet_45 ?_
  refine P_cV1 hB (s_deepAfter o ho _ (by rw [q2]; omega) (by rw [q1]; exact hz2) (by rw [q1]; exact hz3)) mv_X2_63 ho rfl (by decide) dX2_meet_46 rfl rfl (Nat.le_of_ble_eq_true rfl) (fun z46 h46 => ?_)
  have hq2 := deepOf_in (su := σ o 2) (kd := σ o 3) (h := σ 33 d - σ 5 7) hz2
  rw [q1, q2] at h46
  rw [← h46] at hq2
  refine N_iast hB rfl (by omega) (by omega) dX2_meet_49 (fun σ2 e2 => ?_)
  have q3 : σ2 44 d = z29 := by rw [e2, up_row (by decide), e1, up_s]
  have q4 : σ2 45 d = z46 := by rw [e2, up_s]
  refine R_aload_n hB (j := 1) dX2_meet_50 rfl rfl ?_
  refine R_getr hB (46) fl_X2_18 dX2_meet_51 rfl rfl ?_
  refine R_iload_n hB (j := 4) dX2_meet_54 rfl rfl ?_
  refine R_aload_n hB (j := 1) dX2_meet_55 rfl rfl ?_
  refine R_getr hB (44) fl_X2_9 dX2_meet_56 rfl rfl ?_
  refine R_iload_n hB (j := 4) dX2_meet_59 rfl rfl ?_
  refine R_iald hB rfl (by omega) dX2_meet_60 ?_
  refine R_aload_n hB (j := 1) dX2_meet_61 rfl rfl ?_
  refine R_getr hB (45) fl_X2_15 dX2_meet_62 rfl rfl ?_
  refine R_iload_n hB (j := 4) dX2_meet_65 rfl rfl ?_
  refine R_iald hB rfl (by omega) dX2_meet_66 ?_
  refine P_cS1 hB (s_fateBy _ _ (by omega) (by omega)) ms_X2_67 (by decide) dX2_meet_67 rfl rfl (Nat.le_of_ble_eq_true rfl) (fun z67 h67 => ?_)
  rw [q3, q4] at h67
  have hf : ftw (σ o) (σ 33) (σ 34) (σ 35) d (σ 5 7) = z67 := by rw [h67, h29, h46]; rfl
  have hq3 := fateOf_in z29 z46
  rw [← h67] at hq3
  refine N_iast hB rfl (by omega) (by omega) dX2_meet_70 (fun σ3 e3 => ?_)
  have q5 : σ3 46 d = z67 := by rw [e3, up_s]
  have q6 : σ3 5 = σ 5 := by rw [e3, up_row (by decide), e2, up_row (by decide), q2]
  have q7 : σ3 47 = σ 47 := by rw [e3, up_row (by decide), e2, up_row (by decide), e1, up_row (by decide)]
  have q8 : σ3 35 = σ 35 := by rw [e3, up_row (by decide), e2, up_row (by decide), e1, up_row (by decide)]
  have hs1 := hs (σ 35 d) (by omega) (by omega)
  refine R_aload_n hB (j := 1) dX2_meet_71 rfl rfl ?_
  refine R_getr hB (46) fl_X2_18 dX2_meet_72 rfl rfl ?_
  refine R_iload_n hB (j := 4) dX2_meet_75 rfl rfl ?_
  refine R_iald hB rfl (by omega) dX2_meet_76 ?_
  refine R_iconst hB dX2_meet_77 ?_
  refine R_icmp_ne hB 106 (by omega) (by omega) dX2_meet_78 rfl (fun h78 => ?_) (fun h78 => ?_)
  · refine R_aload_n hB (j := 1) dX2_meet_106 rfl rfl ?_
    refine R_getr hB (46) fl_X2_18 dX2_meet_107 rfl rfl ?_
    refine R_iload_n hB (j := 4) dX2_meet_110 rfl rfl ?_
    refine R_iald hB rfl (by omega) dX2_meet_111 ?_
    refine R_iconst hB dX2_meet_112 ?_
    have hz67 : σ3 46 d = z67 := by first | exact q5 | exact r3
    refine R_icmp_ne hB 147 (by rw [hz67]; omega) (by omega) dX2_meet_113 rfl (fun h113 => ?_) (fun h113 => ?_)
    · exact R_vret hB hE rfl dX2_meet_147 (by
        rw [hz67] at h113
        rw [q5] at h78
        rw [MeetQ, hf]
        unfold lnw
        rw [hf]
        have ho44 : o ≠ 44 ∧ o ≠ 45 ∧ o ≠ 46 ∧ o ≠ 47 ∧ o ≠ 5 := by omega
        refine ⟨fun i hi => ?_, fun k hk => ?_, ⟨?_, ?_, ?_⟩, ?_, ?_, ?_, ?_, ?_, fun s => ?_⟩
        · simp only [List.mem_cons, List.not_mem_nil, or_false, not_or] at hi
          funext k
          simp [e3, e2, e1, up, hi]
        · simp [e3, e2, e1, up, hk]
        · simp [e3, e2, e1, up, h29, ldw]
        · simp [e3, e2, e1, up, h46, dpw]
        · simp [e3, e2, e1, up]
        · simp [e3, e2, e1, up, h78, h113]
        · simp [e3, e2, e1, up, h78, h113]
        · simp [e3, e2, e1, up, h78, h113]
        · simp [e3, e2, e1, up]
        · simp [e3, e2, e1, up, h78, h113]
        · by_cases hq9 : s = σ 35 d
          · subst hq9
            simp [e3, e2, e1, up, h78, h113]
          · simp [e3, e2, e1, up, hq9, h78, h113])
    · refine R_aload_n hB (j := 1) dX2_meet_116 rfl rfl ?_
      refine R_dup hB dX2_meet_117 rfl ?_
      refine R_geti hB fl_X2_81 dX2_meet_118 rfl ?_
      refine R_iconst hB dX2_meet_121 ?_
      refine R_iadd hB dX2_meet_122 ?_
      refine N_puti hB fp_X2_81 dX2_meet_123 rfl (by rw [q6]; omega) (fun σ6 e6 => ?_)
      have t1 : σ6 5 8 = σ 5 8 := by rw [e6, up_n (by decide), q6]
      have t0 := p2_lt (σ 33 d).toNat (by omega)
      have t2 := p2_pos (σ 33 d).toNat
      refine R_aload_n hB (j := 1) dX2_meet_126 rfl rfl ?_
      refine R_dup hB dX2_meet_127 rfl ?_
      refine R_getl hB fl_X2_74 dX2_meet_128 rfl ?_
      refine R_lconst hB (z := 1) dX2_meet_131 rfl ?_
      refine R_iload hB (j := 0) dX2_meet_132 rfl ?_
      refine R_lshl hB (2 ^ (σ 33 (d)).toNat) (j_shl1z (by omega)) dX2_meet_134 ?_
      have t3 := WB_or (m := σ 5 8) (S := fun h => (σ 5 8).toNat.testBit h = true) (S' := fun h => (σ 5 8).toNat.testBit h = true ∨ (h : Int) = σ 33 d) ⟨hb.1, hb.2, fun _ _ => Iff.rfl⟩ (k := σ 33 d) (by omega) (fun _ _ => Iff.rfl)
      refine R_lor hB (orZ (σ6 5 8) (2 ^ (σ 33 (d)).toNat)) (j_or (by rw [t1]; omega) (by omega)) dX2_meet_135 ?_
      refine N_putl hB fp_X2_74 dX2_meet_136 (by rw [t1]; have := t3.1; have := t3.2.1; omega) (fun σ7 e7 => ?_)
      refine R_aload_n hB (j := 1) dX2_meet_139 rfl rfl ?_
      refine R_iload hB (j := 0) dX2_meet_140 rfl ?_
      refine R_iconst hB dX2_meet_142 ?_
      refine R_iadd hB dX2_meet_143 ?_
      refine N_puti hB fp_X2_60 dX2_meet_144 rfl (by omega) (fun σ8 e8 => ?_)
      exact R_vret hB hE rfl dX2_meet_147 (by
        rw [hz67] at h113
        rw [q5] at h78
        subst h113
        rw [MeetQ, hf]
        unfold lnw
        rw [hf]
        have ho44 : o ≠ 44 ∧ o ≠ 45 ∧ o ≠ 46 ∧ o ≠ 47 ∧ o ≠ 5 := by omega
        refine ⟨fun i hi => ?_, fun k hk => ?_, ⟨?_, ?_, ?_⟩, ?_, ?_, ?_, ?_, ?_, fun s => ?_⟩
        · simp only [List.mem_cons, List.not_mem_nil, or_false, not_or] at hi
          funext k
          simp [e8, e7, e6, e3, e2, e1, up, hi]
        · simp [e8, e7, e6, e3, e2, e1, up, hk]
        · simp [e8, e7, e6, e3, e2, e1, up, h29, ldw]
        · simp [e8, e7, e6, e3, e2, e1, up, h46, dpw]
        · simp [e8, e7, e6, e3, e2, e1, up]
        · simp [e8, e7, e6, e3, e2, e1, up, ]
        · simp [e8, e7, e6, e3, e2, e1, up, ]
        · simp [e8, e7, e6, e3, e2, e1, up, ]
        · simp [e8, e7, e6, e3, e2, e1, up]
        · simp [e8, e7, e6, e3, e2, e1, up, ]
        · by_cases hq9 : s = σ 35 d
          · subst hq9
            simp [e8, e7, e6, e3, e2, e1, up, ]
          · simp [e8, e7, e6, e3, e2, e1, up, hq9, ])
  · refine R_aload_n hB (j := 1) dX2_meet_81 rfl rfl ?_
    refine R_dup hB dX2_meet_82 rfl ?_
    refine R_geti hB fl_X2_78 dX2_meet_83 rfl ?_
    refine R_iconst hB dX2_meet_86 ?_
    refine R_iadd hB dX2_meet_87 ?_
    refine N_puti hB fp_X2_78 dX2_meet_88 rfl (by rw [q6]; omega) (fun σ4 e4 => ?_)
    have r1 : σ4 47 = σ 47 := by rw [e4, up_row (by decide), q7]
    have r2 : σ4 35 = σ 35 := by rw [e4, up_row (by decide), q8]
    refine R_aload_n hB (j := 1) dX2_meet_91 rfl rfl ?_
    refine R_getr hB (47) fl_X2_21 dX2_meet_92 rfl rfl ?_
    refine R_aload_n hB (j := 3) dX2_meet_95 rfl rfl ?_
    refine R_getr hB (35) fl_X2_92 dX2_meet_96 rfl rfl ?_
    refine R_iload_n hB (j := 4) dX2_meet_99 rfl rfl ?_
    refine R_iald hB rfl (by omega) dX2_meet_100 ?_
    refine R_dup2 hB dX2_meet_101 rfl rfl ?_
    refine R_iald hB rfl (by rw [r2]; omega) dX2_meet_102 ?_
    refine R_iconst hB dX2_meet_103 ?_
    refine R_iadd hB dX2_meet_104 ?_
    refine N_iast hB rfl (by rw [r2]; omega) (by rw [r1, r2]; omega) dX2_meet_105 (fun σ5 e5 => ?_)
    have r3 : σ5 46 d = z67 := by rw [e5, up_row (by decide), e4, up_row (by decide), q5]
    refine R_aload_n hB (j := 1) dX2_meet_106 rfl rfl ?_
    refine R_getr hB (46) fl_X2_18 dX2_meet_107 rfl rfl ?_
    refine R_iload_n hB (j := 4) dX2_meet_110 rfl rfl ?_
    refine R_iald hB rfl (by omega) dX2_meet_111 ?_
    refine R_iconst hB dX2_meet_112 ?_
    have hz67 : σ5 46 d = z67 := by first | exact q5 | exact r3
    refine R_icmp_ne hB 147 (by rw [hz67]; omega) (by omega) dX2_meet_113 rfl (fun h113 => ?_) (fun h113 => ?_)
    · exact R_vret hB hE rfl dX2_meet_147 (by
        rw [hz67] at h113
        rw [q5] at h78
        subst h78
        rw [MeetQ, hf]
        unfold lnw
        rw [hf]
        have ho44 : o ≠ 44 ∧ o ≠ 45 ∧ o ≠ 46 ∧ o ≠ 47 ∧ o ≠ 5 := by omega
        refine ⟨fun i hi => ?_, fun k hk => ?_, ⟨?_, ?_, ?_⟩, ?_, ?_, ?_, ?_, ?_, fun s => ?_⟩
        · simp only [List.mem_cons, List.not_mem_nil, or_false, not_or] at hi
          funext k
          simp [e5, e4, e3, e2, e1, up, hi]
        · simp [e5, e4, e3, e2, e1, up, hk]
        · simp [e5, e4, e3, e2, e1, up, h29, ldw]
        · simp [e5, e4, e3, e2, e1, up, h46, dpw]
        · simp [e5, e4, e3, e2, e1, up]
        · simp [e5, e4, e3, e2, e1, up, ]
        · simp [e5, e4, e3, e2, e1, up, ]
        · simp [e5, e4, e3, e2, e1, up, ]
        · simp [e5, e4, e3, e2, e1, up]
        · simp [e5, e4, e3, e2, e1, up, ]
        · by_cases hq9 : s = σ 35 d
          · subst hq9
            simp [e5, e4, e3, e2, e1, up, ]
          · simp [e5, e4, e3, e2, e1, up, hq9, ])
    · exfalso; rw [hz67] at h113; rw [q5] at h78; omega

theorem s_meet_3 {Θ : Th} {σ : Mem} (o : Nat) (ho : clsOf o = 4) (d : Int) (hd : 0 ≤ d ∧ d < 8) (hz : BedOK (σ o)) (hw : (0 ≤ σ 37 d ∧ σ 37 d < 50) ∧ (0 ≤ σ 38 d ∧ σ 38 d ≤ 9) ∧ (0 ≤ σ 39 d ∧ σ 39 d < 4)) (hl : 0 ≤ σ 5 7 ∧ σ 5 7 < 53) (hm : 0 ≤ σ 5 4 ∧ σ 5 4 < 8) (hk : 0 ≤ σ 5 5 ∧ σ 5 5 < 8) (hs : ∀ s, 0 ≤ s → s < 4 → 0 ≤ σ 47 s ∧ σ 47 s < 8) (hb : 0 ≤ σ 5 8 ∧ σ 5 8 < 1125899906842624) : Spc Θ M_X2_meet 0 [.ref (Th.r Θ 5), .ref (Th.r Θ o), .ref (Th.r Θ 3), .int (I d)] σ (fun z σ' => MeetQ σ σ' (σ o) (σ 37) (σ 38) (σ 39) d) := by
  refine Spc_of (by decide +kernel) (Nat.le_of_ble_eq_true rfl) (fun Γ hB hE => ?_)
  show Run Θ Γ 0 [(0, .ref (Th.r Θ 5)), (1, .ref (Th.r Θ o)), (2, .ref (Th.r Θ 3)), (3, .int (I d))] [] σ
  obtain ⟨hz0, hz1, hz2, hz3⟩ := hz
  have ho7 := cls4 ho
  refine R_aload_n hB (j := 2) dX2_meet_0 rfl rfl ?_
  refine R_getr hB (37) fl_X2_44 dX2_meet_1 rfl rfl ?_
  refine R_iload_n hB (j := 3) dX2_meet_4 rfl rfl ?_
  refine R_iald hB rfl (by omega) dX2_meet_5 ?_
  refine R_istore hB (L' := [_, _, _, _, _]) dX2_meet_6 (Nat.le_of_ble_eq_true rfl) rfl ?_
  refine R_aload_n hB (j := 1) dX2_meet_8 rfl rfl ?_
  refine R_getr hB (44) fl_X2_9 dX2_meet_9 rfl rfl ?_
  refine R_iload_n hB (j := 4) dX2_meet_12 rfl rfl ?_
  refine R_aload_n hB (j := 2) dX2_meet_13 rfl rfl ?_
  refine R_geti hB fl_X2_51 dX2_meet_14 ho ?_
  refine R_aload_n hB (j := 3) dX2_meet_17 rfl rfl ?_
  refine R_getr hB (38) fl_X2_90 dX2_meet_18 rfl rfl ?_
  refine R_iload_n hB (j := 4) dX2_meet_21 rfl rfl ?_
  refine R_iald hB rfl (by omega) dX2_meet_22 ?_
  refine R_aload_n hB (j := 3) dX2_meet_23 rfl rfl ?_
  refine R_getr hB (39) fl_X2_92 dX2_meet_24 rfl rfl ?_
  refine R_iload_n hB (j := 4) dX2_meet_27 rfl rfl ?_
  refine R_iald hB rfl (by omega) dX2_meet_28 ?_
  refine P_cS1 hB (s_loudAt _ _ _ (by omega) (by omega) (by omega)) ms_X2_56 (by decide) dX2_meet_29 rfl rfl (Nat.le_of_ble_eq_true rfl) (fun z29 h29 => ?_)
  have hq := loudOf_in (ho := σ o 0) (fr := σ 38 d) (so := σ 39 d) (by omega)
  rw [← h29] at hq
  refine N_iast hB rfl (by omega) (by omega) dX2_meet_32 (fun σ1 e1 => ?_)
  have q1 : σ1 o = σ o := by rw [e1]; exact up_row (by omega)
  have q2 : σ1 5 = σ 5 := by rw [e1]; exact up_row (by decide)
  refine R_aload_n hB (j := 1) dX2_meet_33 rfl rfl ?_
  refine R_getr hB (45) fl_X2_15 dX2_meet_34 rfl rfl ?_
  refine R_iload_n hB (j := 4) dX2_meet_37 rfl rfl ?_
  refine R_aload_n hB (j := 2) dX2_meet_38 rfl rfl ?_
  refine R_iload hB (j := 0) dX2_meet_39 rfl ?_
  refine R_aload_n hB (j := 1) dX2_meet_41 rfl rfl ?_
  refine R_geti hB fl_X2_60 dX2_meet_42 rfl ?_
  refine R_isub hB dX2_meet_45 ?_
  refine P_cV1 hB (s_deepAfter o ho _ (by rw [q2]; omega) (by rw [q1]; exact hz2) (by rw [q1]; exact hz3)) mv_X2_63 ho rfl (by decide) dX2_meet_46 rfl rfl (Nat.le_of_ble_eq_true rfl) (fun z46 h46 => ?_)
  have hq2 := deepOf_in (su := σ o 2) (kd := σ o 3) (h := σ 37 d - σ 5 7) hz2
  rw [q1, q2] at h46
  rw [← h46] at hq2
  refine N_iast hB rfl (by omega) (by omega) dX2_meet_49 (fun σ2 e2 => ?_)
  have q3 : σ2 44 d = z29 := by rw [e2, up_row (by decide), e1, up_s]
  have q4 : σ2 45 d = z46 := by rw [e2, up_s]
  refine R_aload_n hB (j := 1) dX2_meet_50 rfl rfl ?_
  refine R_getr hB (46) fl_X2_18 dX2_meet_51 rfl rfl ?_
  refine R_iload_n hB (j := 4) dX2_meet_54 rfl rfl ?_
  refine R_aload_n hB (j := 1) dX2_meet_55 rfl rfl ?_
  refine R_getr hB (44) fl_X2_9 dX2_meet_56 rfl rfl ?_
  refine R_iload_n hB (j := 4) dX2_meet_59 rfl rfl ?_
  refine R_iald hB rfl (by omega) dX2_meet_60 ?_
  refine R_aload_n hB (j := 1) dX2_meet_61 rfl rfl ?_
  refine R_getr hB (45) fl_X2_15 dX2_meet_62 rfl rfl ?_
  refine R_iload_n hB (j := 4) dX2_meet_65 rfl rfl ?_
  refine R_iald hB rfl (by omega) dX2_meet_66 ?_
  refine P_cS1 hB (s_fateBy _ _ (by omega) (by omega)) ms_X2_67 (by decide) dX2_meet_67 rfl rfl (Nat.le_of_ble_eq_true rfl) (fun z67 h67 => ?_)
  rw [q3, q4] at h67
  have hf : ftw (σ o) (σ 37) (σ 38) (σ 39) d (σ 5 7) = z67 := by rw [h67, h29, h46]; rfl
  have hq3 := fateOf_in z29 z46
  rw [← h67] at hq3
  refine N_iast hB rfl (by omega) (by omega) dX2_meet_70 (fun σ3 e3 => ?_)
  have q5 : σ3 46 d = z67 := by rw [e3, up_s]
  have q6 : σ3 5 = σ 5 := by rw [e3, up_row (by decide), e2, up_row (by decide), q2]
  have q7 : σ3 47 = σ 47 := by rw [e3, up_row (by decide), e2, up_row (by decide), e1, up_row (by decide)]
  have q8 : σ3 39 = σ 39 := by rw [e3, up_row (by decide), e2, up_row (by decide), e1, up_row (by decide)]
  have hs1 := hs (σ 39 d) (by omega) (by omega)
  refine R_aload_n hB (j := 1) dX2_meet_71 rfl rfl ?_
  refine R_getr hB (46) fl_X2_18 dX2_meet_72 rfl rfl ?_
  refine R_iload_n hB (j := 4) dX2_meet_75 rfl rfl ?_
  refine R_iald hB rfl (by omega) dX2_meet_76 ?_
  refine R_iconst hB dX2_meet_77 ?_
  refine R_icmp_ne hB 106 (by omega) (by omega) dX2_meet_78 rfl (fun h78 => ?_) (fun h78 => ?_)
  · refine R_aload_n hB (j := 1) dX2_meet_106 rfl rfl ?_
    refine R_getr hB (46) fl_X2_18 dX2_meet_107 rfl rfl ?_
    refine R_iload_n hB (j := 4) dX2_meet_110 rfl rfl ?_
    refine R_iald hB rfl (by omega) dX2_meet_111 ?_
    refine R_iconst hB dX2_meet_112 ?_
    have hz67 : σ3 46 d = z67 := by first | exact q5 | exact r3
    refine R_icmp_ne hB 147 (by rw [hz67]; omega) (by omega) dX2_meet_113 rfl (fun h113 => ?_) (fun h113 => ?_)
    · exact R_vret hB hE rfl dX2_meet_147 (by
        rw [hz67] at h113
        rw [q5] at h78
        rw [MeetQ, hf]
        unfold lnw
        rw [hf]
        have ho44 : o ≠ 44 ∧ o ≠ 45 ∧ o ≠ 46 ∧ o ≠ 47 ∧ o ≠ 5 := by omega
        refine ⟨fun i hi => ?_, fun k hk => ?_, ⟨?_, ?_, ?_⟩, ?_, ?_, ?_, ?_, ?_, fun s => ?_⟩
        · simp only [List.mem_cons, List.not_mem_nil, or_false, not_or] at hi
          funext k
          simp [e3, e2, e1, up, hi]
        · simp [e3, e2, e1, up, hk]
        · simp [e3, e2, e1, up, h29, ldw]
        · simp [e3, e2, e1, up, h46, dpw]
        · simp [e3, e2, e1, up]
        · simp [e3, e2, e1, up, h78, h113]
        · simp [e3, e2, e1, up, h78, h113]
        · simp [e3, e2, e1, up, h78, h113]
        · simp [e3, e2, e1, up]
        · simp [e3, e2, e1, up, h78, h113]
        · by_cases hq9 : s = σ 39 d
          · subst hq9
            simp [e3, e2, e1, up, h78, h113]
          · simp [e3, e2, e1, up, hq9, h78, h113])
    · refine R_aload_n hB (j := 1) dX2_meet_116 rfl rfl ?_
      refine R_dup hB dX2_meet_117 rfl ?_
      refine R_geti hB fl_X2_81 dX2_meet_118 rfl ?_
      refine R_iconst hB dX2_meet_121 ?_
      refine R_iadd hB dX2_meet_122 ?_
      refine N_puti hB fp_X2_81 dX2_meet_123 rfl (by rw [q6]; omega) (fun σ6 e6 => ?_)
      have t1 : σ6 5 8 = σ 5 8 := by rw [e6, up_n (by decide), q6]
      have t0 := p2_lt (σ 37 d).toNat (by omega)
      have t2 := p2_pos (σ 37 d).toNat
      refine R_aload_n hB (j := 1) dX2_meet_126 rfl rfl ?_
      refine R_dup hB dX2_meet_127 rfl ?_
      refine R_getl hB fl_X2_74 dX2_meet_128 rfl ?_
      refine R_lconst hB (z := 1) dX2_meet_131 rfl ?_
      refine R_iload hB (j := 0) dX2_meet_132 rfl ?_
      refine R_lshl hB (2 ^ (σ 37 (d)).toNat) (j_shl1z (by omega)) dX2_meet_134 ?_
      have t3 := WB_or (m := σ 5 8) (S := fun h => (σ 5 8).toNat.testBit h = true) (S' := fun h => (σ 5 8).toNat.testBit h = true ∨ (h : Int) = σ 37 d) ⟨hb.1, hb.2, fun _ _ => Iff.rfl⟩ (k := σ 37 d) (by omega) (fun _ _ => Iff.rfl)
      refine R_lor hB (orZ (σ6 5 8) (2 ^ (σ 37 (d)).toNat)) (j_or (by rw [t1]; omega) (by omega)) dX2_meet_135 ?_
      refine N_putl hB fp_X2_74 dX2_meet_136 (by rw [t1]; have := t3.1; have := t3.2.1; omega) (fun σ7 e7 => ?_)
      refine R_aload_n hB (j := 1) dX2_meet_139 rfl rfl ?_
      refine R_iload hB (j := 0) dX2_meet_140 rfl ?_
      refine R_iconst hB dX2_meet_142 ?_
      refine R_iadd hB dX2_meet_143 ?_
      refine N_puti hB fp_X2_60 dX2_meet_144 rfl (by omega) (fun σ8 e8 => ?_)
      exact R_vret hB hE rfl dX2_meet_147 (by
        rw [hz67] at h113
        rw [q5] at h78
        subst h113
        rw [MeetQ, hf]
        unfold lnw
        rw [hf]
        have ho44 : o ≠ 44 ∧ o ≠ 45 ∧ o ≠ 46 ∧ o ≠ 47 ∧ o ≠ 5 := by omega
        refine ⟨fun i hi => ?_, fun k hk => ?_, ⟨?_, ?_, ?_⟩, ?_, ?_, ?_, ?_, ?_, fun s => ?_⟩
        · simp only [List.mem_cons, List.not_mem_nil, or_false, not_or] at hi
          funext k
          simp [e8, e7, e6, e3, e2, e1, up, hi]
        · simp [e8, e7, e6, e3, e2, e1, up, hk]
        · simp [e8, e7, e6, e3, e2, e1, up, h29, ldw]
        · simp [e8, e7, e6, e3, e2, e1, up, h46, dpw]
        · simp [e8, e7, e6, e3, e2, e1, up]
        · simp [e8, e7, e6, e3, e2, e1, up, ]
        · simp [e8, e7, e6, e3, e2, e1, up, ]
        · simp [e8, e7, e6, e3, e2, e1, up, ]
        · simp [e8, e7, e6, e3, e2, e1, up]
        · simp [e8, e7, e6, e3, e2, e1, up, ]
        · by_cases hq9 : s = σ 39 d
          · subst hq9
            simp [e8, e7, e6, e3, e2, e1, up, ]
          · simp [e8, e7, e6, e3, e2, e1, up, hq9, ])
  · refine R_aload_n hB (j := 1) dX2_meet_81 rfl rfl ?_
    refine R_dup hB dX2_meet_82 rfl ?_
    refine R_geti hB fl_X2_78 dX2_meet_83 rfl ?_
    refine R_iconst hB dX2_meet_86 ?_
    refine R_iadd hB dX2_meet_87 ?_
    refine N_puti hB fp_X2_78 dX2_meet_88 rfl (by rw [q6]; omega) (fun σ4 e4 => ?_)
    have r1 : σ4 47 = σ 47 := by rw [e4, up_row (by decide), q7]
    have r2 : σ4 39 = σ 39 := by rw [e4, up_row (by decide), q8]
    refine R_aload_n hB (j := 1) dX2_meet_91 rfl rfl ?_
    refine R_getr hB (47) fl_X2_21 dX2_meet_92 rfl rfl ?_
    refine R_aload_n hB (j := 3) dX2_meet_95 rfl rfl ?_
    refine R_getr hB (39) fl_X2_92 dX2_meet_96 rfl rfl ?_
    refine R_iload_n hB (j := 4) dX2_meet_99 rfl rfl ?_
    refine R_iald hB rfl (by omega) dX2_meet_100 ?_
    refine R_dup2 hB dX2_meet_101 rfl rfl ?_
    refine R_iald hB rfl (by rw [r2]; omega) dX2_meet_102 ?_
    refine R_iconst hB dX2_meet_103 ?_
    refine R_iadd hB dX2_meet_104 ?_
    refine N_iast hB rfl (by rw [r2]; omega) (by rw [r1, r2]; omega) dX2_meet_105 (fun σ5 e5 => ?_)
    have r3 : σ5 46 d = z67 := by rw [e5, up_row (by decide), e4, up_row (by decide), q5]
    refine R_aload_n hB (j := 1) dX2_meet_106 rfl rfl ?_
    refine R_getr hB (46) fl_X2_18 dX2_meet_107 rfl rfl ?_
    refine R_iload_n hB (j := 4) dX2_meet_110 rfl rfl ?_
    refine R_iald hB rfl (by omega) dX2_meet_111 ?_
    refine R_iconst hB dX2_meet_112 ?_
    have hz67 : σ5 46 d = z67 := by first | exact q5 | exact r3
    refine R_icmp_ne hB 147 (by rw [hz67]; omega) (by omega) dX2_meet_113 rfl (fun h113 => ?_) (fun h113 => ?_)
    · exact R_vret hB hE rfl dX2_meet_147 (by
        rw [hz67] at h113
        rw [q5] at h78
        subst h78
        rw [MeetQ, hf]
        unfold lnw
        rw [hf]
        have ho44 : o ≠ 44 ∧ o ≠ 45 ∧ o ≠ 46 ∧ o ≠ 47 ∧ o ≠ 5 := by omega
        refine ⟨fun i hi => ?_, fun k hk => ?_, ⟨?_, ?_, ?_⟩, ?_, ?_, ?_, ?_, ?_, fun s => ?_⟩
        · simp only [List.mem_cons, List.not_mem_nil, or_false, not_or] at hi
          funext k
          simp [e5, e4, e3, e2, e1, up, hi]
        · simp [e5, e4, e3, e2, e1, up, hk]
        · simp [e5, e4, e3, e2, e1, up, h29, ldw]
        · simp [e5, e4, e3, e2, e1, up, h46, dpw]
        · simp [e5, e4, e3, e2, e1, up]
        · simp [e5, e4, e3, e2, e1, up, ]
        · simp [e5, e4, e3, e2, e1, up, ]
        · simp [e5, e4, e3, e2, e1, up, ]
        · simp [e5, e4, e3, e2, e1, up]
        · simp [e5, e4, e3, e2, e1, up, ]
        · by_cases hq9 : s = σ 39 d
          · subst hq9
            simp [e5, e4, e3, e2, e1, up, ]
          · simp [e5, e4, e3, e2, e1, up, hq9, ])
    · exfalso; rw [hz67] at h113; rw [q5] at h78; omega
