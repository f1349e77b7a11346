theorem s_msleeperDigest {Θ : Th} {σ : Mem} (h0 s : Int) (hs : 0 ≤ s ∧ s < σ 0 2) (hRR : RR σ) : Spc Θ M_X8_sleeperDigest 2 [.ref (Th.r Θ 1), .long (Jl h0), .int (I s)] σ (fun r σ' => FrM σ σ' ∧ RR σ' ∧ r = dSl σ s.toNat h0) := by
  refine Spc_of (by decide +kernel) (Nat.le_of_ble_eq_true rfl) (fun Γ hB hE => ?_)
  show Run Θ Γ 0 [(0, .ref (Th.r Θ 1)), (1, .long (Jl h0)), (3, .int (I s))] [] σ
  have h := hRR.1
  have hns := h.ns
  have hn := h.row.1
  have F : FrM σ σ := FrM.rf
  have hI := h
  have hRl := hRR.2.1
  have hz0 := hRR.z (s := s.toNat) (by omega)
  rw [show ((s.toNat : Nat) : Int) = s by omega] at hz0
  have hz : ∀ v, 0 ≤ v → v < 4 → mz σ s v = σ (8 + s.toNat) v := fun v q1 q2 => by
    rcases (show v = 0 ∨ v = 1 ∨ v = 2 ∨ v = 3 by omega) with rfl | rfl | rfl | rfl
    · exact hz0.1
    · exact hz0.2.1
    · exact hz0.2.2.1
    · exact hz0.2.2.2
  refine R_lload_n hB (j := 1) dX8_sleeperDigest_0 rfl rfl ?_
  refine R_lstore hB (L' := [_, _, _, _]) dX8_sleeperDigest_1 (Nat.le_of_ble_eq_true rfl) rfl ?_
  refine R_iconst hB dX8_sleeperDigest_3 ?_
  refine R_istore hB (L' := [_, _, _, _, _]) dX8_sleeperDigest_4 (Nat.le_of_ble_eq_true rfl) rfl ?_
  have lp_6 : ∀ (n_6 : Nat) (hh wv : Int), ((4 - wv).toNat) < n_6 → (0 ≤ wv ∧ wv ≤ 4) → (hh = dgN (fun w => w32 (σ (8 + s.toNat) (w : Int))) wv.toNat h0) → Run Θ Γ 6 [(0, .ref (Th.r Θ 1)), (1, .long (Jl h0)), (3, .int (I s)), (4, .long (Jl hh)), (6, .int (I wv))] [] σ := by
    intro n_6
    induction n_6 with
    | zero => intro hh wv h_m; exact absurd h_m (Nat.not_lt_zero _)
    | succ n_6 ih_6 =>
      intro hh wv h_m hw4 hh1
      refine R_iload hB (j := 4) dX8_sleeperDigest_6 rfl ?_
      refine R_iconst hB dX8_sleeperDigest_8 ?_
      refine R_icmp_ge hB 35 (by omega) (by omega) dX8_sleeperDigest_9 rfl (fun h9 => ?_) (fun h9 => ?_)
      · have hw4 : wv = 4 := by omega
        subst hw4
        refine R_ldc2 hB dX8_sleeperDigest_35 kl_X8_299 ?_
        refine R_lload hB (j := 3) dX8_sleeperDigest_38 rfl ?_
        refine R_lmul hB dX8_sleeperDigest_40 ?_
        refine R_aload_n hB (j := 0) dX8_sleeperDigest_41 rfl rfl ?_
        refine R_iconst hB dX8_sleeperDigest_42 ?_
        refine R_iload_n hB (j := 2) dX8_sleeperDigest_43 rfl rfl ?_
        refine R_cV1 hB (s_depthOf 5 s (by omega) (by rw [F.1 0 (by decide)]; exact hs) hI hRl) mv_X8_183 rfl rfl (by decide) dX8_sleeperDigest_44 rfl rfl (Nat.le_of_ble_eq_true rfl) (fun z44 τ44 h44 => ?_)
        obtain ⟨c1, c3, c2⟩ := h44
        have e44 : z44 = dpH σ s.toNat 5 := by
          refine c2.trans ?_
          exact mm_dpH F.1 (by omega) 5
        have F := F.tr c1
        have hI := h.mm F.1
        have hRl := c3.2.1
        have R9 := c3
        refine R_i2lw hB dX8_sleeperDigest_47 ?_
        refine R_ladd hB dX8_sleeperDigest_48 ?_
        refine R_lstore hB (L' := [_, _, _, _, _]) dX8_sleeperDigest_49 (Nat.le_of_ble_eq_true rfl) rfl ?_
        refine R_ldc2 hB dX8_sleeperDigest_51 kl_X8_299 ?_
        refine R_lload hB (j := 0) dX8_sleeperDigest_54 rfl ?_
        refine R_lmul hB dX8_sleeperDigest_56 ?_
        refine R_aload_n hB (j := 1) dX8_sleeperDigest_57 rfl rfl ?_
        refine R_bipush hB dX8_sleeperDigest_58 rfl ?_
        refine R_iload_n hB (j := 3) dX8_sleeperDigest_60 rfl rfl ?_
        refine R_cV1 hB (s_depthOf 20 s (by omega) (by rw [F.1 0 (by decide)]; exact hs) hI hRl) mv_X8_183 rfl rfl (by decide) dX8_sleeperDigest_61 rfl rfl (Nat.le_of_ble_eq_true rfl) (fun z61 τ61 h61 => ?_)
        obtain ⟨c1, c3, c2⟩ := h61
        have e61 : z61 = dpH σ s.toNat 20 := by
          refine c2.trans ?_
          exact mm_dpH F.1 (by omega) 20
        have F := F.tr c1
        have hI := h.mm F.1
        have hRl := c3.2.1
        have R9 := c3
        refine R_i2lw hB dX8_sleeperDigest_64 ?_
        refine R_ladd hB dX8_sleeperDigest_65 ?_
        refine R_lstore hB (L' := [_, _, _, _, _]) dX8_sleeperDigest_66 (Nat.le_of_ble_eq_true rfl) rfl ?_
        refine R_ldc2 hB dX8_sleeperDigest_68 kl_X8_299 ?_
        refine R_lload hB (j := 0) dX8_sleeperDigest_71 rfl ?_
        refine R_lmul hB dX8_sleeperDigest_73 ?_
        refine R_aload_n hB (j := 1) dX8_sleeperDigest_74 rfl rfl ?_
        refine R_bipush hB dX8_sleeperDigest_75 rfl ?_
        refine R_iload_n hB (j := 3) dX8_sleeperDigest_77 rfl rfl ?_
        refine R_cV1 hB (s_depthOf 49 s (by omega) (by rw [F.1 0 (by decide)]; exact hs) hI hRl) mv_X8_183 rfl rfl (by decide) dX8_sleeperDigest_78 rfl rfl (Nat.le_of_ble_eq_true rfl) (fun z78 τ78 h78 => ?_)
        obtain ⟨c1, c3, c2⟩ := h78
        have e78 : z78 = dpH σ s.toNat 49 := by
          refine c2.trans ?_
          exact mm_dpH F.1 (by omega) 49
        have F := F.tr c1
        have hI := h.mm F.1
        have hRl := c3.2.1
        have R9 := c3
        refine R_i2lw hB dX8_sleeperDigest_81 ?_
        refine R_ladd hB dX8_sleeperDigest_82 ?_
        refine R_lstore hB (L' := [_, _, _, _, _]) dX8_sleeperDigest_83 (Nat.le_of_ble_eq_true rfl) rfl ?_
        refine R_ldc2 hB dX8_sleeperDigest_85 kl_X8_299 ?_
        refine R_lload hB (j := 0) dX8_sleeperDigest_88 rfl ?_
        refine R_lmul hB dX8_sleeperDigest_90 ?_
        refine R_aload_n hB (j := 1) dX8_sleeperDigest_91 rfl rfl ?_
        refine R_iload_n hB (j := 3) dX8_sleeperDigest_92 rfl rfl ?_
        refine R_iconst hB dX8_sleeperDigest_93 ?_
        refine R_cV1 hB (s_nightsOf s 0 (by rw [F.1 0 (by decide)]; exact hs) (by omega) hI hRl) mv_X8_201 rfl rfl (by decide) dX8_sleeperDigest_94 rfl rfl (Nat.le_of_ble_eq_true rfl) (fun z94 τ94 h94 => ?_)
        obtain ⟨c1, c3, c2⟩ := h94
        have e94 : z94 = cWk σ s.toNat := by
          refine c2.trans ?_
          unfold cNt
          rw [if_pos rfl]
          exact mm_cWk F.1 (by omega)
        have F := F.tr c1
        have hI := h.mm F.1
        have hRl := c3.2.1
        have R9 := c3
        refine R_i2lw hB dX8_sleeperDigest_97 ?_
        refine R_ladd hB dX8_sleeperDigest_98 ?_
        refine R_lstore hB (L' := [_, _, _, _, _]) dX8_sleeperDigest_99 (Nat.le_of_ble_eq_true rfl) rfl ?_
        refine R_ldc2 hB dX8_sleeperDigest_101 kl_X8_299 ?_
        refine R_lload hB (j := 0) dX8_sleeperDigest_104 rfl ?_
        refine R_lmul hB dX8_sleeperDigest_106 ?_
        refine R_aload_n hB (j := 1) dX8_sleeperDigest_107 rfl rfl ?_
        refine R_iload_n hB (j := 3) dX8_sleeperDigest_108 rfl rfl ?_
        refine R_iconst hB dX8_sleeperDigest_109 ?_
        refine R_cV1 hB (s_nightsOf s 1 (by rw [F.1 0 (by decide)]; exact hs) (by omega) hI hRl) mv_X8_201 rfl rfl (by decide) dX8_sleeperDigest_110 rfl rfl (Nat.le_of_ble_eq_true rfl) (fun z110 τ110 h110 => ?_)
        obtain ⟨c1, c3, c2⟩ := h110
        have e110 : z110 = cMany σ s.toNat := by
          refine c2.trans ?_
          unfold cNt
          rw [if_neg (by decide)]
          exact mm_many F.1 (by omega)
        have F := F.tr c1
        have hI := h.mm F.1
        have hRl := c3.2.1
        have R9 := c3
        refine R_i2lw hB dX8_sleeperDigest_113 ?_
        refine R_ladd hB dX8_sleeperDigest_114 ?_
        refine R_lstore hB (L' := [_, _, _, _, _]) dX8_sleeperDigest_115 (Nat.le_of_ble_eq_true rfl) rfl ?_
        refine R_ldc2 hB dX8_sleeperDigest_117 kl_X8_299 ?_
        refine R_lload hB (j := 0) dX8_sleeperDigest_120 rfl ?_
        refine R_lmul hB dX8_sleeperDigest_122 ?_
        refine R_aload_n hB (j := 1) dX8_sleeperDigest_123 rfl rfl ?_
        refine R_iload_n hB (j := 3) dX8_sleeperDigest_124 rfl rfl ?_
        refine R_iconst hB dX8_sleeperDigest_125 ?_
        refine R_cV1 hB (s_moveOf s 0 (by rw [F.1 0 (by decide)]; exact hs) (by omega) hI hRl) mv_X8_220 rfl rfl (by decide) dX8_sleeperDigest_126 rfl rfl (Nat.le_of_ble_eq_true rfl) (fun z126 τ126 h126 => ?_)
        obtain ⟨c1, c3, c2⟩ := h126
        have e126 : z126 = amx (mvP σ s.toNat) 10 := by
          refine c2.trans ?_
          rw [if_pos rfl, mm_mvP F.1 hns.2 (by omega)]
        have F := F.tr c1
        have hI := h.mm F.1
        have hRl := c3.2.1
        have R9 := c3
        refine R_i2lw hB dX8_sleeperDigest_129 ?_
        refine R_ladd hB dX8_sleeperDigest_130 ?_
        refine R_lstore hB (L' := [_, _, _, _, _]) dX8_sleeperDigest_131 (Nat.le_of_ble_eq_true rfl) rfl ?_
        refine R_ldc2 hB dX8_sleeperDigest_133 kl_X8_299 ?_
        refine R_lload hB (j := 0) dX8_sleeperDigest_136 rfl ?_
        refine R_lmul hB dX8_sleeperDigest_138 ?_
        refine R_aload_n hB (j := 1) dX8_sleeperDigest_139 rfl rfl ?_
        refine R_iload_n hB (j := 3) dX8_sleeperDigest_140 rfl rfl ?_
        refine R_iconst hB dX8_sleeperDigest_141 ?_
        refine R_cV1 hB (s_moveOf s 1 (by rw [F.1 0 (by decide)]; exact hs) (by omega) hI hRl) mv_X8_220 rfl rfl (by decide) dX8_sleeperDigest_142 rfl rfl (Nat.le_of_ble_eq_true rfl) (fun z142 τ142 h142 => ?_)
        obtain ⟨c1, c3, c2⟩ := h142
        have e142 : z142 = amv (mvP σ s.toNat) 10 := by
          refine c2.trans ?_
          rw [if_neg (by decide), mm_mvP F.1 hns.2 (by omega)]
        have F := F.tr c1
        have hI := h.mm F.1
        have hRl := c3.2.1
        have R9 := c3
        refine R_i2lw hB dX8_sleeperDigest_145 ?_
        refine R_ladd hB dX8_sleeperDigest_146 ?_
        refine R_lstore hB (L' := [_, _, _, _, _]) dX8_sleeperDigest_147 (Nat.le_of_ble_eq_true rfl) rfl ?_
        refine R_ldc2 hB dX8_sleeperDigest_149 kl_X8_299 ?_
        refine R_lload hB (j := 0) dX8_sleeperDigest_152 rfl ?_
        refine R_lmul hB dX8_sleeperDigest_154 ?_
        refine R_aload_n hB (j := 1) dX8_sleeperDigest_155 rfl rfl ?_
        refine R_iload_n hB (j := 3) dX8_sleeperDigest_156 rfl rfl ?_
        refine R_iconst hB dX8_sleeperDigest_157 ?_
        refine R_cV1 hB (s_feedOf s 0 (by rw [F.1 0 (by decide)]; exact hs) (by omega) hI hRl) mv_X8_232 rfl rfl (by decide) dX8_sleeperDigest_158 rfl rfl (Nat.le_of_ble_eq_true rfl) (fun z158 τ158 h158 => ?_)
        obtain ⟨c1, c3, c2⟩ := h158
        have e158 : z158 = amx (fdP σ s.toNat) 4 := by
          refine c2.trans ?_
          rw [if_pos rfl, mm_fdP F.1 (by omega)]
        have F := F.tr c1
        have hI := h.mm F.1
        have hRl := c3.2.1
        have R9 := c3
        refine R_i2lw hB dX8_sleeperDigest_161 ?_
        refine R_ladd hB dX8_sleeperDigest_162 ?_
        refine R_lstore hB (L' := [_, _, _, _, _]) dX8_sleeperDigest_163 (Nat.le_of_ble_eq_true rfl) rfl ?_
        refine R_ldc2 hB dX8_sleeperDigest_165 kl_X8_299 ?_
        refine R_lload hB (j := 0) dX8_sleeperDigest_168 rfl ?_
        refine R_lmul hB dX8_sleeperDigest_170 ?_
        refine R_aload_n hB (j := 1) dX8_sleeperDigest_171 rfl rfl ?_
        refine R_iload_n hB (j := 3) dX8_sleeperDigest_172 rfl rfl ?_
        refine R_iconst hB dX8_sleeperDigest_173 ?_
        refine R_cV1 hB (s_feedOf s 1 (by rw [F.1 0 (by decide)]; exact hs) (by omega) hI hRl) mv_X8_232 rfl rfl (by decide) dX8_sleeperDigest_174 rfl rfl (Nat.le_of_ble_eq_true rfl) (fun z174 τ174 h174 => ?_)
        obtain ⟨c1, c3, c2⟩ := h174
        have e174 : z174 = amv (fdP σ s.toNat) 4 := by
          refine c2.trans ?_
          rw [if_neg (by decide), mm_fdP F.1 (by omega)]
        have F := F.tr c1
        have hI := h.mm F.1
        have hRl := c3.2.1
        have R9 := c3
        refine R_i2lw hB dX8_sleeperDigest_177 ?_
        refine R_ladd hB dX8_sleeperDigest_178 ?_
        exact R_lret hB hE rfl dX8_sleeperDigest_179 (⟨F, R9, by unfold dSl; rw [← e44, ← e61, ← e78, ← e94, ← e110, ← e126, ← e142, ← e158, ← e174, hh1]; rfl⟩)
      · refine R_ldc2 hB dX8_sleeperDigest_12 kl_X8_299 ?_
        refine R_lload hB (j := 3) dX8_sleeperDigest_15 rfl ?_
        refine R_lmul hB dX8_sleeperDigest_17 ?_
        refine R_aload_n hB (j := 0) dX8_sleeperDigest_18 rfl rfl ?_
        refine R_iload_n hB (j := 2) dX8_sleeperDigest_19 rfl rfl ?_
        refine R_iload hB (j := 4) dX8_sleeperDigest_20 rfl ?_
        refine P_cV1 hB (s_sleeperOf s wv (by omega) (by omega)) mv_X8_139 rfl rfl (by decide) dX8_sleeperDigest_22 rfl rfl (Nat.le_of_ble_eq_true rfl) (fun z22 h22 => ?_)
        rw [hz wv (by omega) (by omega)] at h22
        refine R_i2lw hB dX8_sleeperDigest_25 ?_
        refine R_ladd hB dX8_sleeperDigest_26 ?_
        refine R_lstore hB (L' := [_, _, _, _, _]) dX8_sleeperDigest_27 (Nat.le_of_ble_eq_true rfl) rfl ?_
        refine R_iinc hB (j := 4) (L' := [_, _, _, _, _]) dX8_sleeperDigest_29 rfl (Nat.le_of_ble_eq_true rfl) rfl ?_
        refine R_goto hB 6 dX8_sleeperDigest_32 rfl ?_
        exact R_sub [2, 3, 4, 1, 0] rfl (ih_6 _ _ (by omega) (by omega) (by rw [show (wv + 1).toNat = wv.toNat + 1 by omega]; simp only [dgN]; rw [← hh1, h22, show ((wv.toNat : Nat) : Int) = wv by omega]))
  exact R_sub [2, 3, 4, 1, 0] rfl (lp_6 _ _ _ (Nat.lt_succ_self _) (by omega) rfl)

theorem s_mdeedDigest {Θ : Th} {σ : Mem} (h0 d : Int) (hd : 0 ≤ d ∧ d < σ 2 4) (hRR : RR σ) (hTa : TaR σ) : Spc Θ M_X8_deedDigest 2 [.ref (Th.r Θ 1), .long (Jl h0), .int (I d)] σ (fun r σ' => FrM σ σ' ∧ RR σ' ∧ r = dDd σ d h0) := by
  refine Spc_of (by decide +kernel) (Nat.le_of_ble_eq_true rfl) (fun Γ hB hE => ?_)
  show Run Θ Γ 0 [(0, .ref (Th.r Θ 1)), (1, .long (Jl h0)), (3, .int (I d))] [] σ
  have h := hRR.1
  have hns := h.ns
  have hn := h.row.1
  have hdd := hRR.2.2.2.2.2 d hd.1 hd.2
  refine R_lload_n hB (j := 1) dX8_deedDigest_0 rfl rfl ?_
  refine R_lstore hB (L' := [_, _, _, _]) dX8_deedDigest_1 (Nat.le_of_ble_eq_true rfl) rfl ?_
  refine R_iconst hB dX8_deedDigest_3 ?_
  refine R_istore hB (L' := [_, _, _, _, _]) dX8_deedDigest_4 (Nat.le_of_ble_eq_true rfl) rfl ?_
  have lp_6 : ∀ (n_6 : Nat) (hh wv : Int), ((3 - wv).toNat) < n_6 → (0 ≤ wv ∧ wv ≤ 3) → (hh = dgN (fun w => w32 (cDe σ d (w : Int))) wv.toNat h0) → Run Θ Γ 6 [(0, .ref (Th.r Θ 1)), (1, .long (Jl h0)), (3, .int (I d)), (4, .long (Jl hh)), (6, .int (I wv))] [] σ := by
    intro n_6
    induction n_6 with
    | zero => intro hh wv h_m; exact absurd h_m (Nat.not_lt_zero _)
    | succ n_6 ih_6 =>
      intro hh wv h_m hw3 hh1
      refine R_iload hB (j := 4) dX8_deedDigest_6 rfl ?_
      refine R_iconst hB dX8_deedDigest_8 ?_
      refine R_icmp_ge hB 35 (by omega) (by omega) dX8_deedDigest_9 rfl (fun h9 => ?_) (fun h9 => ?_)
      · have hw3 : wv = 3 := by omega
        subst hw3
        refine R_iconst hB dX8_deedDigest_35 ?_
        refine R_istore hB (L' := [_, _, _, _, _]) dX8_deedDigest_36 (Nat.le_of_ble_eq_true rfl) rfl ?_
        have lp_38 : ∀ (n_38 : Nat) (hx wu : Int) (σ2 : Mem), ((3 - wu).toNat) < n_38 → (0 ≤ wu ∧ wu ≤ 3) → (FrM σ σ2) → (RR σ2) → (hx = dgN (fun w => w32 (cPf σ d (w : Int))) wu.toNat hh) → Run Θ Γ 38 [(0, .ref (Th.r Θ 1)), (1, .long (Jl h0)), (3, .int (I d)), (4, .long (Jl hx)), (6, .int (I wu))] [] σ2 := by
          intro n_38
          induction n_38 with
          | zero => intro hx wu σ2 h_m; exact absurd h_m (Nat.not_lt_zero _)
          | succ n_38 ih_38 =>
            intro hx wu σ2 h_m hw3 F R2 hh2
            refine R_iload hB (j := 4) dX8_deedDigest_38 rfl ?_
            refine R_iconst hB dX8_deedDigest_40 ?_
            refine R_icmp_ge hB 67 (by omega) (by omega) dX8_deedDigest_41 rfl (fun h41 => ?_) (fun h41 => ?_)
            · have hw3 : wu = 3 := by omega
              subst hw3
              have hI := h.mm F.1
              have hRl := R2.2.1
              refine R_ldc2 hB dX8_deedDigest_67 kl_X8_299 ?_
              refine R_lload hB (j := 3) dX8_deedDigest_70 rfl ?_
              refine R_lmul hB dX8_deedDigest_72 ?_
              refine R_aload_n hB (j := 0) dX8_deedDigest_73 rfl rfl ?_
              refine R_iload_n hB (j := 2) dX8_deedDigest_74 rfl rfl ?_
              refine R_cV1 hB (s_placeOf d (by rw [F.1 2 (by decide)]; exact hd) hI hRl (hTa.mm F)) mv_X8_257 rfl rfl (by decide) dX8_deedDigest_75 rfl rfl (Nat.le_of_ble_eq_true rfl) (fun z75 τ75 h75 => ?_)
              obtain ⟨c1, c3, c2⟩ := h75
              have e75 : z75 = bsum (plB σ d) 10 := by
                refine c2.trans ?_
                rw [mm_plB F.1 hns.2]
              have F := F.tr c1
              have hI := h.mm F.1
              have hRl := c3.2.1
              have R9 := c3
              refine R_i2lw hB dX8_deedDigest_78 ?_
              refine R_ladd hB dX8_deedDigest_79 ?_
              refine R_lstore hB (L' := [_, _, _, _, _]) dX8_deedDigest_80 (Nat.le_of_ble_eq_true rfl) rfl ?_
              refine R_aload_n hB (j := 1) dX8_deedDigest_82 rfl rfl ?_
              refine R_iload_n hB (j := 3) dX8_deedDigest_83 rfl rfl ?_
              refine R_cV1 hB (s_needBy d (by rw [F.1 2 (by decide)]; exact hd) hI hRl) mv_X8_226 rfl rfl (by decide) dX8_deedDigest_84 rfl rfl (Nat.le_of_ble_eq_true rfl) (fun z84 τ84 h84 => ?_)
              obtain ⟨c1, c3, c4, c5⟩ := h84
              have e84 : z84 = cNd σ d (-1) := by
                have := c5 (-1) (by omega) (by omega)
                rw [if_pos rfl, mm_cNd F.1 hns.2] at this
                exact this
              have e85 := c5 0 (by omega) (by omega)
              rw [mm_cNd F.1 hns.2] at e85
              have F := F.tr c1
              have hI := h.mm F.1
              have hRl := c3.2.1
              refine R_istore hB (L' := [_, _, _, _, _]) dX8_deedDigest_87 (Nat.le_of_ble_eq_true rfl) rfl ?_
              refine R_ldc2 hB dX8_deedDigest_89 kl_X8_299 ?_
              refine R_lload hB (j := 1) dX8_deedDigest_92 rfl ?_
              refine R_lmul hB dX8_deedDigest_94 ?_
              refine R_iload hB (j := 0) dX8_deedDigest_95 rfl ?_
              refine R_i2lw hB dX8_deedDigest_97 ?_
              refine R_ladd hB dX8_deedDigest_98 ?_
              refine R_lstore hB (L' := [_, _, _, _, _]) dX8_deedDigest_99 (Nat.le_of_ble_eq_true rfl) rfl ?_
              refine R_ldc2 hB dX8_deedDigest_101 kl_X8_299 ?_
              refine R_lload hB (j := 0) dX8_deedDigest_104 rfl ?_
              refine R_lmul hB dX8_deedDigest_106 ?_
              refine R_aload_n hB (j := 2) dX8_deedDigest_107 rfl rfl ?_
              refine R_iload hB (j := 1) dX8_deedDigest_108 rfl ?_
              refine R_iconst hB dX8_deedDigest_110 ?_
              refine P_cV1 hB (s_ofRow z84 0 c4 (by omega)) mv_X8_229 rfl rfl (by decide) dX8_deedDigest_111 rfl rfl (Nat.le_of_ble_eq_true rfl) (fun z111 h111 => ?_)
              have e111 : z111 = cNd σ d 0 := by rw [h111]; exact e85
              refine R_i2lw hB dX8_deedDigest_114 ?_
              refine R_ladd hB dX8_deedDigest_115 ?_
              refine R_lstore hB (L' := [_, _, _, _, _]) dX8_deedDigest_116 (Nat.le_of_ble_eq_true rfl) rfl ?_
              refine R_ldc2 hB dX8_deedDigest_118 kl_X8_299 ?_
              refine R_lload hB (j := 0) dX8_deedDigest_121 rfl ?_
              refine R_lmul hB dX8_deedDigest_123 ?_
              refine R_aload_n hB (j := 2) dX8_deedDigest_124 rfl rfl ?_
              refine R_iconst hB dX8_deedDigest_125 ?_
              refine R_iload_n hB (j := 4) dX8_deedDigest_126 rfl rfl ?_
              refine R_iconst hB dX8_deedDigest_127 ?_
              refine R_cV2 hB (s_feignOf 5 d 0 (by omega) (by rw [F.1 2 (by decide)]; exact hd) (by omega) hI hRl) mv_X8_267 rfl rfl (by decide) dX8_deedDigest_128 rfl rfl (Nat.le_of_ble_eq_true rfl) (fun z128 τ128 h128 => ?_)
              obtain ⟨c1, c3, a128, b128, c4, c5⟩ := h128
              have e128 : z128 = rdA (4 * fgM σ d) (fgT σ 5 d) := by
                rw [mm_fgM F.1 hns.2, mm_fgT F.1 hns.2] at c4
                rw [c5, if_pos rfl]; exact (RedQ_rd c4).1
              have F := F.tr c1
              have hI := h.mm F.1
              have hRl := c3.2.1
              have R9 := c3
              refine R_ladd hB dX8_deedDigest_131 ?_
              refine R_lstore hB (L' := [_, _, _, _, _]) dX8_deedDigest_132 (Nat.le_of_ble_eq_true rfl) rfl ?_
              refine R_ldc2 hB dX8_deedDigest_134 kl_X8_299 ?_
              refine R_lload hB (j := 0) dX8_deedDigest_137 rfl ?_
              refine R_lmul hB dX8_deedDigest_139 ?_
              refine R_aload_n hB (j := 2) dX8_deedDigest_140 rfl rfl ?_
              refine R_iconst hB dX8_deedDigest_141 ?_
              refine R_iload_n hB (j := 4) dX8_deedDigest_142 rfl rfl ?_
              refine R_iconst hB dX8_deedDigest_143 ?_
              refine R_cV2 hB (s_feignOf 5 d 1 (by omega) (by rw [F.1 2 (by decide)]; exact hd) (by omega) hI hRl) mv_X8_267 rfl rfl (by decide) dX8_deedDigest_144 rfl rfl (Nat.le_of_ble_eq_true rfl) (fun z144 τ144 h144 => ?_)
              obtain ⟨c1, c3, a144, b144, c4, c5⟩ := h144
              have e144 : z144 = rdB (4 * fgM σ d) (fgT σ 5 d) := by
                rw [mm_fgM F.1 hns.2, mm_fgT F.1 hns.2] at c4
                rw [c5, if_neg (by decide)]; exact (RedQ_rd c4).2
              have F := F.tr c1
              have hI := h.mm F.1
              have hRl := c3.2.1
              have R9 := c3
              refine R_ladd hB dX8_deedDigest_147 ?_
              refine R_lstore hB (L' := [_, _, _, _, _]) dX8_deedDigest_148 (Nat.le_of_ble_eq_true rfl) rfl ?_
              refine R_iconst hB dX8_deedDigest_150 ?_
              refine R_istore hB (L' := [_, _, _, _, _, _]) dX8_deedDigest_151 (Nat.le_of_ble_eq_true rfl) rfl ?_
              have lp_153 : ∀ (n_153 : Nat) (hy s : Int) (σ3 : Mem), ((σ 0 2 - s).toNat) < n_153 → (0 ≤ s ∧ s ≤ σ 0 2) → (FrM σ σ3) → (RR σ3) → (hy = itN (fun s h => dgN (fun w => w32 (cHe σ d s (w : Int))) 3 h) s.toNat (31 * (31 * (31 * (31 * (31 * hx + w32 z75) + w32 z84) + w32 z111) + z128) + z144)) → Run Θ Γ 153 [(0, .ref (Th.r Θ 1)), (1, .long (Jl h0)), (3, .int (I d)), (4, .long (Jl hy)), (6, .int (I z84)), (7, .int (I s))] [] σ3 := by
                intro n_153
                induction n_153 with
                | zero => intro hy s σ3 h_m; exact absurd h_m (Nat.not_lt_zero _)
                | succ n_153 ih_153 =>
                  intro hy s σ3 h_m hs F R3 hh3
                  have p3 : σ3 1 2 = σ 0 2 := by rw [R3.2.2.1, F.1 0 (by decide)]
                  refine R_iload hB (j := 5) dX8_deedDigest_153 rfl ?_
                  refine R_aload_n hB (j := 0) dX8_deedDigest_155 rfl rfl ?_
                  refine R_geti hB fl_X8_114 dX8_deedDigest_156 rfl ?_
                  refine R_icmp_ge hB 202 (by omega) (by rw [p3]; omega) dX8_deedDigest_159 rfl (fun h159 => ?_) (fun h159 => ?_)
                  · rw [p3] at h159
                    have hsn : s = σ 0 2 := by omega
                    subst hsn
                    refine R_lload hB (j := 3) dX8_deedDigest_202 rfl ?_
                    exact R_lret hB hE rfl dX8_deedDigest_204 (⟨F, R3, by rw [hh3]; unfold dDd; rw [← e75, ← e84, ← e111, ← e128, ← e144, hh2, hh1]; rfl⟩)
                  · rw [p3] at h159
                    refine R_iconst hB dX8_deedDigest_162 ?_
                    refine R_istore hB (L' := [_, _, _, _, _, _, _]) dX8_deedDigest_163 (Nat.le_of_ble_eq_true rfl) rfl ?_
                    have lp_165 : ∀ (n_165 : Nat) (hz wx : Int) (σ4 : Mem), ((3 - wx).toNat) < n_165 → (0 ≤ wx ∧ wx ≤ 3) → (FrM σ σ4) → (RR σ4) → (hz = dgN (fun w => w32 (cHe σ d s.toNat (w : Int))) wx.toNat hy) → Run Θ Γ 165 [(0, .ref (Th.r Θ 1)), (1, .long (Jl h0)), (3, .int (I d)), (4, .long (Jl hz)), (6, .int (I z84)), (7, .int (I s)), (8, .int (I wx))] [] σ4 := by
                      intro n_165
                      induction n_165 with
                      | zero => intro hz wx σ4 h_m; exact absurd h_m (Nat.not_lt_zero _)
                      | succ n_165 ih_165 =>
                        intro hz wx σ4 h_m hw3 F R4 hh4
                        refine R_iload hB (j := 6) dX8_deedDigest_165 rfl ?_
                        refine R_iconst hB dX8_deedDigest_167 ?_
                        refine R_icmp_ge hB 196 (by omega) (by omega) dX8_deedDigest_168 rfl (fun h168 => ?_) (fun h168 => ?_)
                        · have hw3 : wx = 3 := by omega
                          subst hw3
                          refine R_iinc hB (j := 5) (L' := [_, _, _, _, _, _, _]) dX8_deedDigest_196 rfl (Nat.le_of_ble_eq_true rfl) rfl ?_
                          refine R_goto hB 153 dX8_deedDigest_199 rfl ?_
                          exact R_sub [1, 2, 3, 4, 5, 0] rfl (ih_153 _ _ _ (by omega) (by omega) F R4 (by rw [show (s + 1).toNat = s.toNat + 1 by omega]; simp only [itN]; rw [hh4, hh3]; rfl))
                        · refine R_ldc2 hB dX8_deedDigest_171 kl_X8_299 ?_
                          refine R_lload hB (j := 3) dX8_deedDigest_174 rfl ?_
                          refine R_lmul hB dX8_deedDigest_176 ?_
                          refine R_aload_n hB (j := 0) dX8_deedDigest_177 rfl rfl ?_
                          refine R_iload_n hB (j := 2) dX8_deedDigest_178 rfl rfl ?_
                          refine R_iload hB (j := 5) dX8_deedDigest_179 rfl ?_
                          refine R_iload hB (j := 6) dX8_deedDigest_181 rfl ?_
                          refine R_cV1 hB (s_hearsOf d s wx (by rw [F.1 2 (by decide)]; exact hd) (by rw [F.1 0 (by decide)]; omega) (by omega) (h.mm F.1) R4.2.1) mv_X8_186 rfl rfl (by decide) dX8_deedDigest_183 rfl rfl (Nat.le_of_ble_eq_true rfl) (fun z183 τ183 h183 => ?_)
                          obtain ⟨c1, c3, c2⟩ := h183
                          have e183 : z183 = cHe σ d s.toNat wx := by
                            refine c2.trans ?_
                            exact mm_cHe F.1 (s := s.toNat) (by omega) d wx
                          have F := F.tr c1
                          have hI := h.mm F.1
                          have hRl := c3.2.1
                          have R9 := c3
                          refine R_i2lw hB dX8_deedDigest_186 ?_
                          refine R_ladd hB dX8_deedDigest_187 ?_
                          refine R_lstore hB (L' := [_, _, _, _, _, _, _]) dX8_deedDigest_188 (Nat.le_of_ble_eq_true rfl) rfl ?_
                          refine R_iinc hB (j := 6) (L' := [_, _, _, _, _, _, _]) dX8_deedDigest_190 rfl (Nat.le_of_ble_eq_true rfl) rfl ?_
                          refine R_goto hB 165 dX8_deedDigest_193 rfl ?_
                          exact R_sub [2, 3, 4, 1, 5, 6, 0] rfl (ih_165 _ _ _ (by omega) (by omega) F R9 (by rw [show (wx + 1).toNat = wx.toNat + 1 by omega]; simp only [dgN]; rw [← hh4, e183, show ((wx.toNat : Nat) : Int) = wx by omega]))
                    exact R_sub [1, 2, 3, 4, 5, 6, 0] rfl (lp_165 _ _ _ _ (Nat.lt_succ_self _) (by omega) F R3 rfl)
              exact R_sub [3, 4, 5, 1, 2, 0] rfl (lp_153 _ _ _ _ (Nat.lt_succ_self _) (by omega) F R9 rfl)
            · refine R_ldc2 hB dX8_deedDigest_44 kl_X8_299 ?_
              refine R_lload hB (j := 3) dX8_deedDigest_47 rfl ?_
              refine R_lmul hB dX8_deedDigest_49 ?_
              refine R_aload_n hB (j := 0) dX8_deedDigest_50 rfl rfl ?_
              refine R_iload_n hB (j := 2) dX8_deedDigest_51 rfl rfl ?_
              refine R_iload hB (j := 4) dX8_deedDigest_52 rfl ?_
              refine R_cV1 hB (s_proofOf d wu (by rw [F.1 2 (by decide)]; exact hd) (by omega) (h.mm F.1) R2.2.1) mv_X8_195 rfl rfl (by decide) dX8_deedDigest_54 rfl rfl (Nat.le_of_ble_eq_true rfl) (fun z54 τ54 h54 => ?_)
              obtain ⟨c1, c3, c2⟩ := h54
              have e54 : z54 = cPf σ d wu := by
                refine c2.trans ?_
                exact mm_cPf F.1 hns.2 d wu
              have F := F.tr c1
              have hI := h.mm F.1
              have hRl := c3.2.1
              have R9 := c3
              refine R_i2lw hB dX8_deedDigest_57 ?_
              refine R_ladd hB dX8_deedDigest_58 ?_
              refine R_lstore hB (L' := [_, _, _, _, _]) dX8_deedDigest_59 (Nat.le_of_ble_eq_true rfl) rfl ?_
              refine R_iinc hB (j := 4) (L' := [_, _, _, _, _]) dX8_deedDigest_61 rfl (Nat.le_of_ble_eq_true rfl) rfl ?_
              refine R_goto hB 38 dX8_deedDigest_64 rfl ?_
              exact R_sub [2, 3, 4, 1, 0] rfl (ih_38 _ _ _ (by omega) (by omega) F R9 (by rw [show (wu + 1).toNat = wu.toNat + 1 by omega]; simp only [dgN]; rw [← hh2, e54, show ((wu.toNat : Nat) : Int) = wu by omega]))
        exact R_sub [1, 2, 3, 4, 0] rfl (lp_38 _ _ _ _ (Nat.lt_succ_self _) (by omega) FrM.rf hRR rfl)
      · refine R_ldc2 hB dX8_deedDigest_12 kl_X8_299 ?_
        refine R_lload hB (j := 3) dX8_deedDigest_15 rfl ?_
        refine R_lmul hB dX8_deedDigest_17 ?_
        refine R_aload_n hB (j := 0) dX8_deedDigest_18 rfl rfl ?_
        refine R_iload_n hB (j := 2) dX8_deedDigest_19 rfl rfl ?_
        refine R_iload hB (j := 4) dX8_deedDigest_20 rfl ?_
        refine P_cV1 hB (s_deedOf d wv (by omega) (by omega)) mv_X8_145 rfl rfl (by decide) dX8_deedDigest_22 rfl rfl (Nat.le_of_ble_eq_true rfl) (fun z22 h22 => ?_)
        have h22 : z22 = cDe σ d wv := by
          rw [h22, hdd.1, hdd.2.1, hdd.2.2]
          rfl
        refine R_i2lw hB dX8_deedDigest_25 ?_
        refine R_ladd hB dX8_deedDigest_26 ?_
        refine R_lstore hB (L' := [_, _, _, _, _]) dX8_deedDigest_27 (Nat.le_of_ble_eq_true rfl) rfl ?_
        refine R_iinc hB (j := 4) (L' := [_, _, _, _, _]) dX8_deedDigest_29 rfl (Nat.le_of_ble_eq_true rfl) rfl ?_
        refine R_goto hB 6 dX8_deedDigest_32 rfl ?_
        exact R_sub [2, 3, 4, 1, 0] rfl (ih_6 _ _ (by omega) (by omega) (by rw [show (wv + 1).toNat = wv.toNat + 1 by omega]; simp only [dgN]; rw [← hh1, h22, show ((wv.toNat : Nat) : Int) = wv by omega]))
  exact R_sub [2, 3, 4, 1, 0] rfl (lp_6 _ _ _ (Nat.lt_succ_self _) (by omega) rfl)
