theorem s_digestSleeper {Θ : Th} {σ : Mem} (h0 s : Int) (hs : 0 ≤ s ∧ s < σ 0 2) (h : InvC σ) : Spc Θ M_X7_digestSleeper 2 [.ref (Th.r Θ 0), .long (Jl h0), .int (I s)] σ (fun r σ' => Same SC σ σ' ∧ r = dSl σ s.toNat h0) := by
  refine Spc_of (by decide +kernel) (Nat.le_of_ble_eq_true rfl) (fun Γ hB hE => ?_)
  show Run Θ Γ 0 [(0, .ref (Th.r Θ 0)), (1, .long (Jl h0)), (3, .int (I s))] [] σ
  have hns := h.ns
  have hw := h.row
  have hn := hw.1
  have hr := h.2.2.2.1
  have hS : Same SC σ σ := Same.rf
  have hI := h
  refine R_lload_n hB (j := 1) dX7_digestSleeper_0 rfl rfl ?_
  refine R_lstore hB (L' := [_, _, _, _]) dX7_digestSleeper_1 (Nat.le_of_ble_eq_true rfl) rfl ?_
  refine R_iconst hB dX7_digestSleeper_3 ?_
  refine R_istore hB (L' := [_, _, _, _, _]) dX7_digestSleeper_4 (Nat.le_of_ble_eq_true rfl) rfl ?_
  have lp_6 : ∀ (n_6 : Nat) (hh wv : Int), ((4 - wv).toNat) < n_6 → (0 ≤ wv ∧ wv ≤ 4) → (hh = dgN (fun w => w32 (σ (8 + s.toNat) (w : Int))) wv.toNat h0) → Run Θ Γ 6 [(0, .ref (Th.r Θ 0)), (1, .long (Jl h0)), (3, .int (I s)), (4, .long (Jl hh)), (6, .int (I wv))] [] σ := by
    intro n_6
    induction n_6 with
    | zero => intro hh wv h_m; exact absurd h_m (Nat.not_lt_zero _)
    | succ n_6 ih_6 =>
      intro hh wv h_m hw4 hh1
      refine R_iload hB (j := 4) dX7_digestSleeper_6 rfl ?_
      refine R_iconst hB dX7_digestSleeper_8 ?_
      refine R_icmp_ge hB 35 (by omega) (by omega) dX7_digestSleeper_9 rfl (fun h9 => ?_) (fun h9 => ?_)
      · have hw4 : wv = 4 := by omega
        subst hw4
        refine R_ldc2 hB dX7_digestSleeper_35 kl_X7_327 ?_
        refine R_lload hB (j := 3) dX7_digestSleeper_38 rfl ?_
        refine R_lmul hB dX7_digestSleeper_40 ?_
        refine R_aload_n hB (j := 0) dX7_digestSleeper_41 rfl rfl ?_
        refine R_iconst hB dX7_digestSleeper_42 ?_
        refine R_iload_n hB (j := 2) dX7_digestSleeper_43 rfl rfl ?_
        refine R_cV1 hB (s_depth 5 s (by omega) (by omega) hI) mv_X7_361 rfl rfl (by decide) dX7_digestSleeper_44 rfl rfl (Nat.le_of_ble_eq_true rfl) (fun z44 τ44 h44 => ?_)
        obtain ⟨c1, c2⟩ := h44
        rw [if_pos (by rw [hS 0 (by decide)]; omega)] at c2
        have q9 := sm_dpH hS (s := s.toNat) (by omega) 5
        have e44 : z44 = dpH σ s.toNat 5 := by
          rw [← q9]
          exact c2
        have hS := hS.tr c1 (fun _ q => q) (fun _ q => q)
        have hI := h.same hS
        refine R_i2lw hB dX7_digestSleeper_47 ?_
        refine R_ladd hB dX7_digestSleeper_48 ?_
        refine R_lstore hB (L' := [_, _, _, _, _]) dX7_digestSleeper_49 (Nat.le_of_ble_eq_true rfl) rfl ?_
        refine R_ldc2 hB dX7_digestSleeper_51 kl_X7_327 ?_
        refine R_lload hB (j := 0) dX7_digestSleeper_54 rfl ?_
        refine R_lmul hB dX7_digestSleeper_56 ?_
        refine R_aload_n hB (j := 1) dX7_digestSleeper_57 rfl rfl ?_
        refine R_bipush hB dX7_digestSleeper_58 rfl ?_
        refine R_iload_n hB (j := 3) dX7_digestSleeper_60 rfl rfl ?_
        refine R_cV1 hB (s_depth 20 s (by omega) (by omega) hI) mv_X7_361 rfl rfl (by decide) dX7_digestSleeper_61 rfl rfl (Nat.le_of_ble_eq_true rfl) (fun z61 τ61 h61 => ?_)
        obtain ⟨c1, c2⟩ := h61
        rw [if_pos (by rw [hS 0 (by decide)]; omega)] at c2
        have q9 := sm_dpH hS (s := s.toNat) (by omega) 20
        have e61 : z61 = dpH σ s.toNat 20 := by
          rw [← q9]
          exact c2
        have hS := hS.tr c1 (fun _ q => q) (fun _ q => q)
        have hI := h.same hS
        refine R_i2lw hB dX7_digestSleeper_64 ?_
        refine R_ladd hB dX7_digestSleeper_65 ?_
        refine R_lstore hB (L' := [_, _, _, _, _]) dX7_digestSleeper_66 (Nat.le_of_ble_eq_true rfl) rfl ?_
        refine R_ldc2 hB dX7_digestSleeper_68 kl_X7_327 ?_
        refine R_lload hB (j := 0) dX7_digestSleeper_71 rfl ?_
        refine R_lmul hB dX7_digestSleeper_73 ?_
        refine R_aload_n hB (j := 1) dX7_digestSleeper_74 rfl rfl ?_
        refine R_bipush hB dX7_digestSleeper_75 rfl ?_
        refine R_iload_n hB (j := 3) dX7_digestSleeper_77 rfl rfl ?_
        refine R_cV1 hB (s_depth 49 s (by omega) (by omega) hI) mv_X7_361 rfl rfl (by decide) dX7_digestSleeper_78 rfl rfl (Nat.le_of_ble_eq_true rfl) (fun z78 τ78 h78 => ?_)
        obtain ⟨c1, c2⟩ := h78
        rw [if_pos (by rw [hS 0 (by decide)]; omega)] at c2
        have q9 := sm_dpH hS (s := s.toNat) (by omega) 49
        have e78 : z78 = dpH σ s.toNat 49 := by
          rw [← q9]
          exact c2
        have hS := hS.tr c1 (fun _ q => q) (fun _ q => q)
        have hI := h.same hS
        refine R_i2lw hB dX7_digestSleeper_81 ?_
        refine R_ladd hB dX7_digestSleeper_82 ?_
        refine R_lstore hB (L' := [_, _, _, _, _]) dX7_digestSleeper_83 (Nat.le_of_ble_eq_true rfl) rfl ?_
        refine R_ldc2 hB dX7_digestSleeper_85 kl_X7_327 ?_
        refine R_lload hB (j := 0) dX7_digestSleeper_88 rfl ?_
        refine R_lmul hB dX7_digestSleeper_90 ?_
        refine R_aload_n hB (j := 1) dX7_digestSleeper_91 rfl rfl ?_
        refine R_iload_n hB (j := 3) dX7_digestSleeper_92 rfl rfl ?_
        refine R_iconst hB dX7_digestSleeper_93 ?_
        refine R_cV1 hB (s_nights s 0 (by omega) (by omega) hI) mv_X7_364 rfl rfl (by decide) dX7_digestSleeper_94 rfl rfl (Nat.le_of_ble_eq_true rfl) (fun z94 τ94 h94 => ?_)
        obtain ⟨c1, c2⟩ := h94
        rw [if_pos (by rw [hS 0 (by decide)]; omega), if_pos rfl] at c2
        have q9 := sm_cWk hS (s := s.toNat) (by omega)
        have e94 : z94 = cWk σ s.toNat := by
          rw [← q9]
          exact c2
        have hS := hS.tr c1 (fun _ q => q) (fun _ q => q)
        have hI := h.same hS
        refine R_i2lw hB dX7_digestSleeper_97 ?_
        refine R_ladd hB dX7_digestSleeper_98 ?_
        refine R_lstore hB (L' := [_, _, _, _, _]) dX7_digestSleeper_99 (Nat.le_of_ble_eq_true rfl) rfl ?_
        refine R_ldc2 hB dX7_digestSleeper_101 kl_X7_327 ?_
        refine R_lload hB (j := 0) dX7_digestSleeper_104 rfl ?_
        refine R_lmul hB dX7_digestSleeper_106 ?_
        refine R_aload_n hB (j := 1) dX7_digestSleeper_107 rfl rfl ?_
        refine R_iload_n hB (j := 3) dX7_digestSleeper_108 rfl rfl ?_
        refine R_iconst hB dX7_digestSleeper_109 ?_
        refine R_cV1 hB (s_nights s 1 (by omega) (by omega) hI) mv_X7_364 rfl rfl (by decide) dX7_digestSleeper_110 rfl rfl (Nat.le_of_ble_eq_true rfl) (fun z110 τ110 h110 => ?_)
        obtain ⟨c1, c2⟩ := h110
        rw [if_pos (by rw [hS 0 (by decide)]; omega), if_neg (by decide)] at c2
        have q9 := sm_many hS (s := s.toNat) (by omega)
        have e110 : z110 = cMany σ s.toNat := by
          rw [← q9]
          exact c2
        have hS := hS.tr c1 (fun _ q => q) (fun _ q => q)
        have hI := h.same hS
        refine R_i2lw hB dX7_digestSleeper_113 ?_
        refine R_ladd hB dX7_digestSleeper_114 ?_
        refine R_lstore hB (L' := [_, _, _, _, _]) dX7_digestSleeper_115 (Nat.le_of_ble_eq_true rfl) rfl ?_
        refine R_ldc2 hB dX7_digestSleeper_117 kl_X7_327 ?_
        refine R_lload hB (j := 0) dX7_digestSleeper_120 rfl ?_
        refine R_lmul hB dX7_digestSleeper_122 ?_
        refine R_aload_n hB (j := 1) dX7_digestSleeper_123 rfl rfl ?_
        refine R_iload_n hB (j := 3) dX7_digestSleeper_124 rfl rfl ?_
        refine R_iconst hB dX7_digestSleeper_125 ?_
        refine R_cV1 hB (s_move s 0 (by omega) (by omega) hI) mv_X7_367 rfl rfl (by decide) dX7_digestSleeper_126 rfl rfl (Nat.le_of_ble_eq_true rfl) (fun z126 τ126 h126 => ?_)
        obtain ⟨c1, c2⟩ := h126
        rw [if_pos (by rw [hS 0 (by decide)]; omega), if_pos rfl] at c2
        have e126 : z126 = amx (mvP σ s.toNat) 10 := by
          rw [sm_mvP hS hns.2 (by omega)] at c2
          exact c2
        have hS := hS.tr c1 (fun _ q => q) (fun _ q => q)
        have hI := h.same hS
        refine R_i2lw hB dX7_digestSleeper_129 ?_
        refine R_ladd hB dX7_digestSleeper_130 ?_
        refine R_lstore hB (L' := [_, _, _, _, _]) dX7_digestSleeper_131 (Nat.le_of_ble_eq_true rfl) rfl ?_
        refine R_ldc2 hB dX7_digestSleeper_133 kl_X7_327 ?_
        refine R_lload hB (j := 0) dX7_digestSleeper_136 rfl ?_
        refine R_lmul hB dX7_digestSleeper_138 ?_
        refine R_aload_n hB (j := 1) dX7_digestSleeper_139 rfl rfl ?_
        refine R_iload_n hB (j := 3) dX7_digestSleeper_140 rfl rfl ?_
        refine R_iconst hB dX7_digestSleeper_141 ?_
        refine R_cV1 hB (s_move s 1 (by omega) (by omega) hI) mv_X7_367 rfl rfl (by decide) dX7_digestSleeper_142 rfl rfl (Nat.le_of_ble_eq_true rfl) (fun z142 τ142 h142 => ?_)
        obtain ⟨c1, c2⟩ := h142
        rw [if_pos (by rw [hS 0 (by decide)]; omega), if_neg (by decide)] at c2
        have e142 : z142 = amv (mvP σ s.toNat) 10 := by
          rw [sm_mvP hS hns.2 (by omega)] at c2
          exact c2
        have hS := hS.tr c1 (fun _ q => q) (fun _ q => q)
        have hI := h.same hS
        refine R_i2lw hB dX7_digestSleeper_145 ?_
        refine R_ladd hB dX7_digestSleeper_146 ?_
        refine R_lstore hB (L' := [_, _, _, _, _]) dX7_digestSleeper_147 (Nat.le_of_ble_eq_true rfl) rfl ?_
        refine R_ldc2 hB dX7_digestSleeper_149 kl_X7_327 ?_
        refine R_lload hB (j := 0) dX7_digestSleeper_152 rfl ?_
        refine R_lmul hB dX7_digestSleeper_154 ?_
        refine R_aload_n hB (j := 1) dX7_digestSleeper_155 rfl rfl ?_
        refine R_iload_n hB (j := 3) dX7_digestSleeper_156 rfl rfl ?_
        refine R_iconst hB dX7_digestSleeper_157 ?_
        refine R_cV1 hB (s_feed s 0 (by omega) (by omega) hI) mv_X7_370 rfl rfl (by decide) dX7_digestSleeper_158 rfl rfl (Nat.le_of_ble_eq_true rfl) (fun z158 τ158 h158 => ?_)
        obtain ⟨c1, c2⟩ := h158
        rw [if_pos (by rw [hS 0 (by decide)]; omega), if_pos rfl] at c2
        have e158 : z158 = amx (fdP σ s.toNat) 4 := by
          rw [sm_fdP hS (by omega)] at c2
          exact c2
        have hS := hS.tr c1 (fun _ q => q) (fun _ q => q)
        have hI := h.same hS
        refine R_i2lw hB dX7_digestSleeper_161 ?_
        refine R_ladd hB dX7_digestSleeper_162 ?_
        refine R_lstore hB (L' := [_, _, _, _, _]) dX7_digestSleeper_163 (Nat.le_of_ble_eq_true rfl) rfl ?_
        refine R_ldc2 hB dX7_digestSleeper_165 kl_X7_327 ?_
        refine R_lload hB (j := 0) dX7_digestSleeper_168 rfl ?_
        refine R_lmul hB dX7_digestSleeper_170 ?_
        refine R_aload_n hB (j := 1) dX7_digestSleeper_171 rfl rfl ?_
        refine R_iload_n hB (j := 3) dX7_digestSleeper_172 rfl rfl ?_
        refine R_iconst hB dX7_digestSleeper_173 ?_
        refine R_cV1 hB (s_feed s 1 (by omega) (by omega) hI) mv_X7_370 rfl rfl (by decide) dX7_digestSleeper_174 rfl rfl (Nat.le_of_ble_eq_true rfl) (fun z174 τ174 h174 => ?_)
        obtain ⟨c1, c2⟩ := h174
        rw [if_pos (by rw [hS 0 (by decide)]; omega), if_neg (by decide)] at c2
        have e174 : z174 = amv (fdP σ s.toNat) 4 := by
          rw [sm_fdP hS (by omega)] at c2
          exact c2
        have hS := hS.tr c1 (fun _ q => q) (fun _ q => q)
        have hI := h.same hS
        refine R_i2lw hB dX7_digestSleeper_177 ?_
        refine R_ladd hB dX7_digestSleeper_178 ?_
        exact R_lret hB hE rfl dX7_digestSleeper_179 (⟨hS, by unfold dSl; rw [← e44, ← e61, ← e78, ← e94, ← e110, ← e126, ← e142, ← e158, ← e174, hh1]; rfl⟩)
      · refine R_ldc2 hB dX7_digestSleeper_12 kl_X7_327 ?_
        refine R_lload hB (j := 3) dX7_digestSleeper_15 rfl ?_
        refine R_lmul hB dX7_digestSleeper_17 ?_
        refine R_aload_n hB (j := 0) dX7_digestSleeper_18 rfl rfl ?_
        refine R_iload_n hB (j := 2) dX7_digestSleeper_19 rfl rfl ?_
        refine R_iload hB (j := 4) dX7_digestSleeper_20 rfl ?_
        refine P_cV1 hB (s_sleeper s wv (by omega) (by omega) h) mv_X7_358 rfl rfl (by decide) dX7_digestSleeper_22 rfl rfl (Nat.le_of_ble_eq_true rfl) (fun z22 h22 => ?_)
        rw [if_pos (by omega)] at h22
        refine R_i2lw hB dX7_digestSleeper_25 ?_
        refine R_ladd hB dX7_digestSleeper_26 ?_
        refine R_lstore hB (L' := [_, _, _, _, _]) dX7_digestSleeper_27 (Nat.le_of_ble_eq_true rfl) rfl ?_
        refine R_iinc hB (j := 4) (L' := [_, _, _, _, _]) dX7_digestSleeper_29 rfl (Nat.le_of_ble_eq_true rfl) rfl ?_
        refine R_goto hB 6 dX7_digestSleeper_32 rfl ?_
        exact R_sub [2, 3, 4, 1, 0] rfl (ih_6 _ _ (by omega) (by omega) (by rw [show (wv + 1).toNat = wv.toNat + 1 by omega]; simp only [dgN]; rw [← hh1, h22, show ((wv.toNat : Nat) : Int) = wv by omega]))
  exact R_sub [2, 3, 4, 1, 0] rfl (lp_6 _ _ _ (Nat.lt_succ_self _) (by omega) rfl)

theorem s_digestDeed {Θ : Th} {σ : Mem} (h0 d : Int) (hd : 0 ≤ d ∧ d < σ 2 4) (h : InvC σ) : Spc Θ M_X7_digestDeed 2 [.ref (Th.r Θ 0), .long (Jl h0), .int (I d)] σ (fun r σ' => Same SC σ σ' ∧ r = dDd σ d h0) := by
  refine Spc_of (by decide +kernel) (Nat.le_of_ble_eq_true rfl) (fun Γ hB hE => ?_)
  show Run Θ Γ 0 [(0, .ref (Th.r Θ 0)), (1, .long (Jl h0)), (3, .int (I d))] [] σ
  have hns := h.ns
  have hw := h.row
  have hn := hw.1
  have hr := h.2.2.2.1
  refine R_lload_n hB (j := 1) dX7_digestDeed_0 rfl rfl ?_
  refine R_lstore hB (L' := [_, _, _, _]) dX7_digestDeed_1 (Nat.le_of_ble_eq_true rfl) rfl ?_
  refine R_iconst hB dX7_digestDeed_3 ?_
  refine R_istore hB (L' := [_, _, _, _, _]) dX7_digestDeed_4 (Nat.le_of_ble_eq_true rfl) rfl ?_
  have lp_6 : ∀ (n_6 : Nat) (hh wv : Int), ((3 - wv).toNat) < n_6 → (0 ≤ wv ∧ wv ≤ 3) → (hh = dgN (fun w => w32 (cDe σ d (w : Int))) wv.toNat h0) → Run Θ Γ 6 [(0, .ref (Th.r Θ 0)), (1, .long (Jl h0)), (3, .int (I d)), (4, .long (Jl hh)), (6, .int (I wv))] [] σ := by
    intro n_6
    induction n_6 with
    | zero => intro hh wv h_m; exact absurd h_m (Nat.not_lt_zero _)
    | succ n_6 ih_6 =>
      intro hh wv h_m hw3 hh1
      refine R_iload hB (j := 4) dX7_digestDeed_6 rfl ?_
      refine R_iconst hB dX7_digestDeed_8 ?_
      refine R_icmp_ge hB 35 (by omega) (by omega) dX7_digestDeed_9 rfl (fun h9 => ?_) (fun h9 => ?_)
      · have hw3 : wv = 3 := by omega
        subst hw3
        have hS : Same SC σ σ := Same.rf
        refine R_iconst hB dX7_digestDeed_35 ?_
        refine R_istore hB (L' := [_, _, _, _, _]) dX7_digestDeed_36 (Nat.le_of_ble_eq_true rfl) rfl ?_
        have lp_38 : ∀ (n_38 : Nat) (hx wu : Int) (σ2 : Mem), ((3 - wu).toNat) < n_38 → (0 ≤ wu ∧ wu ≤ 3) → (Same SC σ σ2) → (hx = dgN (fun w => w32 (cPf σ d (w : Int))) wu.toNat hh) → Run Θ Γ 38 [(0, .ref (Th.r Θ 0)), (1, .long (Jl h0)), (3, .int (I d)), (4, .long (Jl hx)), (6, .int (I wu))] [] σ2 := by
          intro n_38
          induction n_38 with
          | zero => intro hx wu σ2 h_m; exact absurd h_m (Nat.not_lt_zero _)
          | succ n_38 ih_38 =>
            intro hx wu σ2 h_m hw3 hS hh2
            have hI := h.same hS
            refine R_iload hB (j := 4) dX7_digestDeed_38 rfl ?_
            refine R_iconst hB dX7_digestDeed_40 ?_
            refine R_icmp_ge hB 67 (by omega) (by omega) dX7_digestDeed_41 rfl (fun h41 => ?_) (fun h41 => ?_)
            · have hw3 : wu = 3 := by omega
              subst hw3
              refine R_ldc2 hB dX7_digestDeed_67 kl_X7_327 ?_
              refine R_lload hB (j := 3) dX7_digestDeed_70 rfl ?_
              refine R_lmul hB dX7_digestDeed_72 ?_
              refine R_aload_n hB (j := 0) dX7_digestDeed_73 rfl rfl ?_
              refine R_iload_n hB (j := 2) dX7_digestDeed_74 rfl rfl ?_
              refine R_cV1 hB (s_place d (by omega) hI) mv_X7_379 rfl rfl (by decide) dX7_digestDeed_75 rfl rfl (Nat.le_of_ble_eq_true rfl) (fun z75 τ75 h75 => ?_)
              obtain ⟨c1, c2⟩ := h75
              rw [if_pos (by rw [hS 2 (by decide)]; omega)] at c2
              have e75 : z75 = bsum (plB σ d) 10 := by
                rw [sm_plB hS hns.2] at c2
                exact c2
              have hS := hS.tr c1 (fun _ q => q) (fun _ q => q)
              have hI := h.same hS
              refine R_i2lw hB dX7_digestDeed_78 ?_
              refine R_ladd hB dX7_digestDeed_79 ?_
              refine R_lstore hB (L' := [_, _, _, _, _]) dX7_digestDeed_80 (Nat.le_of_ble_eq_true rfl) rfl ?_
              refine R_ldc2 hB dX7_digestDeed_82 kl_X7_327 ?_
              refine R_lload hB (j := 0) dX7_digestDeed_85 rfl ?_
              refine R_lmul hB dX7_digestDeed_87 ?_
              refine R_aload_n hB (j := 1) dX7_digestDeed_88 rfl rfl ?_
              refine R_iload_n hB (j := 3) dX7_digestDeed_89 rfl rfl ?_
              refine R_iconst hB dX7_digestDeed_90 ?_
              refine R_cV1 hB (s_need d (-1) (by omega) (by omega) hI) mv_X7_382 rfl rfl (by decide) dX7_digestDeed_91 rfl rfl (Nat.le_of_ble_eq_true rfl) (fun z91 τ91 h91 => ?_)
              obtain ⟨c1, c2⟩ := h91
              rw [if_pos (by rw [hS 2 (by decide)]; omega)] at c2
              have q9 := sm_cNd hS hns.2 d (-1)
              have e91 : z91 = cNd σ d (-1) := by
                rw [← q9]
                exact c2
              have hS := hS.tr c1 (fun _ q => q) (fun _ q => q)
              have hI := h.same hS
              refine R_i2lw hB dX7_digestDeed_94 ?_
              refine R_ladd hB dX7_digestDeed_95 ?_
              refine R_lstore hB (L' := [_, _, _, _, _]) dX7_digestDeed_96 (Nat.le_of_ble_eq_true rfl) rfl ?_
              refine R_ldc2 hB dX7_digestDeed_98 kl_X7_327 ?_
              refine R_lload hB (j := 0) dX7_digestDeed_101 rfl ?_
              refine R_lmul hB dX7_digestDeed_103 ?_
              refine R_aload_n hB (j := 1) dX7_digestDeed_104 rfl rfl ?_
              refine R_iload_n hB (j := 3) dX7_digestDeed_105 rfl rfl ?_
              refine R_iconst hB dX7_digestDeed_106 ?_
              refine R_cV1 hB (s_need d 0 (by omega) (by omega) hI) mv_X7_382 rfl rfl (by decide) dX7_digestDeed_107 rfl rfl (Nat.le_of_ble_eq_true rfl) (fun z107 τ107 h107 => ?_)
              obtain ⟨c1, c2⟩ := h107
              rw [if_pos (by rw [hS 2 (by decide)]; omega)] at c2
              have q9 := sm_cNd hS hns.2 d 0
              have e107 : z107 = cNd σ d 0 := by
                rw [← q9]
                exact c2
              have hS := hS.tr c1 (fun _ q => q) (fun _ q => q)
              have hI := h.same hS
              refine R_i2lw hB dX7_digestDeed_110 ?_
              refine R_ladd hB dX7_digestDeed_111 ?_
              refine R_lstore hB (L' := [_, _, _, _, _]) dX7_digestDeed_112 (Nat.le_of_ble_eq_true rfl) rfl ?_
              refine R_ldc2 hB dX7_digestDeed_114 kl_X7_327 ?_
              refine R_lload hB (j := 0) dX7_digestDeed_117 rfl ?_
              refine R_lmul hB dX7_digestDeed_119 ?_
              refine R_aload_n hB (j := 1) dX7_digestDeed_120 rfl rfl ?_
              refine R_iconst hB dX7_digestDeed_121 ?_
              refine R_iload_n hB (j := 3) dX7_digestDeed_122 rfl rfl ?_
              refine R_iconst hB dX7_digestDeed_123 ?_
              refine R_cV2 hB (s_feign 5 d 0 (by omega) (by omega) (by omega) hI) mv_X7_385 rfl rfl (by decide) dX7_digestDeed_124 rfl rfl (Nat.le_of_ble_eq_true rfl) (fun z124 τ124 h124 => ?_)
              obtain ⟨c1, c2⟩ := h124
              have e124 : z124 = rdA (4 * fgM σ d) (fgT σ 5 d) := by
                rcases c2 with ⟨q, -⟩ | ⟨-, a, b, q1, q2⟩
                · exact absurd (by rw [hS 2 (by decide)]; omega) q
                · rw [sm_fgM hS hns.2, sm_fgT hS hns.2] at q1
                  rw [q2, if_pos rfl]; exact (RedQ_rd q1).1
              have hS := hS.tr c1 (fun _ q => q) (fun _ q => q)
              have hI := h.same hS
              refine R_ladd hB dX7_digestDeed_127 ?_
              refine R_lstore hB (L' := [_, _, _, _, _]) dX7_digestDeed_128 (Nat.le_of_ble_eq_true rfl) rfl ?_
              refine R_ldc2 hB dX7_digestDeed_130 kl_X7_327 ?_
              refine R_lload hB (j := 0) dX7_digestDeed_133 rfl ?_
              refine R_lmul hB dX7_digestDeed_135 ?_
              refine R_aload_n hB (j := 1) dX7_digestDeed_136 rfl rfl ?_
              refine R_iconst hB dX7_digestDeed_137 ?_
              refine R_iload_n hB (j := 3) dX7_digestDeed_138 rfl rfl ?_
              refine R_iconst hB dX7_digestDeed_139 ?_
              refine R_cV2 hB (s_feign 5 d 1 (by omega) (by omega) (by omega) hI) mv_X7_385 rfl rfl (by decide) dX7_digestDeed_140 rfl rfl (Nat.le_of_ble_eq_true rfl) (fun z140 τ140 h140 => ?_)
              obtain ⟨c1, c2⟩ := h140
              have e140 : z140 = rdB (4 * fgM σ d) (fgT σ 5 d) := by
                rcases c2 with ⟨q, -⟩ | ⟨-, a, b, q1, q2⟩
                · exact absurd (by rw [hS 2 (by decide)]; omega) q
                · rw [sm_fgM hS hns.2, sm_fgT hS hns.2] at q1
                  rw [q2, if_neg (by decide)]; exact (RedQ_rd q1).2
              have hS := hS.tr c1 (fun _ q => q) (fun _ q => q)
              have hI := h.same hS
              refine R_ladd hB dX7_digestDeed_143 ?_
              refine R_lstore hB (L' := [_, _, _, _, _]) dX7_digestDeed_144 (Nat.le_of_ble_eq_true rfl) rfl ?_
              refine R_iconst hB dX7_digestDeed_146 ?_
              refine R_istore hB (L' := [_, _, _, _, _]) dX7_digestDeed_147 (Nat.le_of_ble_eq_true rfl) rfl ?_
              have lp_149 : ∀ (n_149 : Nat) (hy s : Int) (σ3 : Mem), ((σ 0 2 - s).toNat) < n_149 → (0 ≤ s ∧ s ≤ σ 0 2) → (Same SC σ σ3) → (hy = itN (fun s h => dgN (fun w => w32 (cHe σ d s (w : Int))) 3 h) s.toNat (31 * (31 * (31 * (31 * (31 * hx + w32 z75) + w32 z91) + w32 z107) + z124) + z140)) → Run Θ Γ 149 [(0, .ref (Th.r Θ 0)), (1, .long (Jl h0)), (3, .int (I d)), (4, .long (Jl hy)), (6, .int (I s))] [] σ3 := by
                intro n_149
                induction n_149 with
                | zero => intro hy s σ3 h_m; exact absurd h_m (Nat.not_lt_zero _)
                | succ n_149 ih_149 =>
                  intro hy s σ3 h_m hs hS hh3
                  refine R_iload hB (j := 4) dX7_digestDeed_149 rfl ?_
                  refine R_aload_n hB (j := 0) dX7_digestDeed_151 rfl rfl ?_
                  refine R_geti hB fl_X7_118 dX7_digestDeed_152 rfl ?_
                  refine R_icmp_ge hB 198 (by omega) (by rw [hS 0 (by decide)]; omega) dX7_digestDeed_155 rfl (fun h155 => ?_) (fun h155 => ?_)
                  · rw [hS 0 (by decide)] at h155
                    have hsn : s = σ 0 2 := by omega
                    subst hsn
                    refine R_lload hB (j := 3) dX7_digestDeed_198 rfl ?_
                    exact R_lret hB hE rfl dX7_digestDeed_200 (⟨hS, by rw [hh3]; unfold dDd; rw [← e75, ← e91, ← e107, ← e124, ← e140, hh2, hh1]; rfl⟩)
                  · rw [hS 0 (by decide)] at h155
                    refine R_iconst hB dX7_digestDeed_158 ?_
                    refine R_istore hB (L' := [_, _, _, _, _, _]) dX7_digestDeed_159 (Nat.le_of_ble_eq_true rfl) rfl ?_
                    have lp_161 : ∀ (n_161 : Nat) (hz wx : Int) (σ4 : Mem), ((3 - wx).toNat) < n_161 → (0 ≤ wx ∧ wx ≤ 3) → (Same SC σ σ4) → (hz = dgN (fun w => w32 (cHe σ d s.toNat (w : Int))) wx.toNat hy) → Run Θ Γ 161 [(0, .ref (Th.r Θ 0)), (1, .long (Jl h0)), (3, .int (I d)), (4, .long (Jl hz)), (6, .int (I s)), (7, .int (I wx))] [] σ4 := by
                      intro n_161
                      induction n_161 with
                      | zero => intro hz wx σ4 h_m; exact absurd h_m (Nat.not_lt_zero _)
                      | succ n_161 ih_161 =>
                        intro hz wx σ4 h_m hw3 hS hh4
                        have hI := h.same hS
                        refine R_iload hB (j := 5) dX7_digestDeed_161 rfl ?_
                        refine R_iconst hB dX7_digestDeed_163 ?_
                        refine R_icmp_ge hB 192 (by omega) (by omega) dX7_digestDeed_164 rfl (fun h164 => ?_) (fun h164 => ?_)
                        · have hw3 : wx = 3 := by omega
                          subst hw3
                          refine R_iinc hB (j := 4) (L' := [_, _, _, _, _, _]) dX7_digestDeed_192 rfl (Nat.le_of_ble_eq_true rfl) rfl ?_
                          refine R_goto hB 149 dX7_digestDeed_195 rfl ?_
                          exact R_sub [1, 2, 3, 4, 0] rfl (ih_149 _ _ _ (by omega) (by omega) hS (by rw [show (s + 1).toNat = s.toNat + 1 by omega]; simp only [itN]; rw [hh4, hh3]; rfl))
                        · refine R_ldc2 hB dX7_digestDeed_167 kl_X7_327 ?_
                          refine R_lload hB (j := 3) dX7_digestDeed_170 rfl ?_
                          refine R_lmul hB dX7_digestDeed_172 ?_
                          refine R_aload_n hB (j := 0) dX7_digestDeed_173 rfl rfl ?_
                          refine R_iload_n hB (j := 2) dX7_digestDeed_174 rfl rfl ?_
                          refine R_iload hB (j := 4) dX7_digestDeed_175 rfl ?_
                          refine R_iload hB (j := 5) dX7_digestDeed_177 rfl ?_
                          refine R_cV1 hB (s_hears d s wx (by omega) (by omega) (by omega) hI) mv_X7_389 rfl rfl (by decide) dX7_digestDeed_179 rfl rfl (Nat.le_of_ble_eq_true rfl) (fun z179 τ179 h179 => ?_)
                          obtain ⟨c1, c2⟩ := h179
                          rw [if_pos (by rw [hS 2 (by decide), hS 0 (by decide)]; omega)] at c2
                          have q9 := sm_cHe hS (s := s.toNat) (by omega) d wx
                          have e179 : z179 = cHe σ d s.toNat wx := by
                            rw [← q9]
                            exact c2
                          have hS := hS.tr c1 (fun _ q => q) (fun _ q => q)
                          refine R_i2lw hB dX7_digestDeed_182 ?_
                          refine R_ladd hB dX7_digestDeed_183 ?_
                          refine R_lstore hB (L' := [_, _, _, _, _, _]) dX7_digestDeed_184 (Nat.le_of_ble_eq_true rfl) rfl ?_
                          refine R_iinc hB (j := 5) (L' := [_, _, _, _, _, _]) dX7_digestDeed_186 rfl (Nat.le_of_ble_eq_true rfl) rfl ?_
                          refine R_goto hB 161 dX7_digestDeed_189 rfl ?_
                          exact R_sub [2, 3, 4, 1, 5, 0] rfl (ih_161 _ _ _ (by omega) (by omega) hS (by rw [show (wx + 1).toNat = wx.toNat + 1 by omega]; simp only [dgN]; rw [← hh4, e179, show ((wx.toNat : Nat) : Int) = wx by omega]))
                    exact R_sub [1, 2, 3, 4, 5, 0] rfl (lp_161 _ _ _ _ (Nat.lt_succ_self _) (by omega) hS rfl)
              exact R_sub [2, 3, 4, 1, 0] rfl (lp_149 _ _ _ _ (Nat.lt_succ_self _) (by omega) hS rfl)
            · refine R_ldc2 hB dX7_digestDeed_44 kl_X7_327 ?_
              refine R_lload hB (j := 3) dX7_digestDeed_47 rfl ?_
              refine R_lmul hB dX7_digestDeed_49 ?_
              refine R_aload_n hB (j := 0) dX7_digestDeed_50 rfl rfl ?_
              refine R_iload_n hB (j := 2) dX7_digestDeed_51 rfl rfl ?_
              refine R_iload hB (j := 4) dX7_digestDeed_52 rfl ?_
              refine R_cV1 hB (s_proof d wu (by omega) (by omega) hI) mv_X7_376 rfl rfl (by decide) dX7_digestDeed_54 rfl rfl (Nat.le_of_ble_eq_true rfl) (fun z54 τ54 h54 => ?_)
              obtain ⟨c1, c2⟩ := h54
              rw [if_pos (by rw [hS 2 (by decide)]; omega)] at c2
              have q9 := sm_cPf hS hns.2 d wu
              have e54 : z54 = cPf σ d wu := by
                rw [← q9]
                exact c2
              have hS := hS.tr c1 (fun _ q => q) (fun _ q => q)
              refine R_i2lw hB dX7_digestDeed_57 ?_
              refine R_ladd hB dX7_digestDeed_58 ?_
              refine R_lstore hB (L' := [_, _, _, _, _]) dX7_digestDeed_59 (Nat.le_of_ble_eq_true rfl) rfl ?_
              refine R_iinc hB (j := 4) (L' := [_, _, _, _, _]) dX7_digestDeed_61 rfl (Nat.le_of_ble_eq_true rfl) rfl ?_
              refine R_goto hB 38 dX7_digestDeed_64 rfl ?_
              exact R_sub [2, 3, 4, 1, 0] rfl (ih_38 _ _ _ (by omega) (by omega) hS (by rw [show (wu + 1).toNat = wu.toNat + 1 by omega]; simp only [dgN]; rw [← hh2, e54, show ((wu.toNat : Nat) : Int) = wu by omega]))
        exact R_sub [1, 2, 3, 4, 0] rfl (lp_38 _ _ _ _ (Nat.lt_succ_self _) (by omega) hS rfl)
      · refine R_ldc2 hB dX7_digestDeed_12 kl_X7_327 ?_
        refine R_lload hB (j := 3) dX7_digestDeed_15 rfl ?_
        refine R_lmul hB dX7_digestDeed_17 ?_
        refine R_aload_n hB (j := 0) dX7_digestDeed_18 rfl rfl ?_
        refine R_iload_n hB (j := 2) dX7_digestDeed_19 rfl rfl ?_
        refine R_iload hB (j := 4) dX7_digestDeed_20 rfl ?_
        refine P_cV1 hB (s_deed d wv (by omega) (by omega) h) mv_X7_373 rfl rfl (by decide) dX7_digestDeed_22 rfl rfl (Nat.le_of_ble_eq_true rfl) (fun z22 h22 => ?_)
        rw [if_pos (by omega)] at h22
        have h22 : z22 = cDe σ d wv := h22
        refine R_i2lw hB dX7_digestDeed_25 ?_
        refine R_ladd hB dX7_digestDeed_26 ?_
        refine R_lstore hB (L' := [_, _, _, _, _]) dX7_digestDeed_27 (Nat.le_of_ble_eq_true rfl) rfl ?_
        refine R_iinc hB (j := 4) (L' := [_, _, _, _, _]) dX7_digestDeed_29 rfl (Nat.le_of_ble_eq_true rfl) rfl ?_
        refine R_goto hB 6 dX7_digestDeed_32 rfl ?_
        exact R_sub [2, 3, 4, 1, 0] rfl (ih_6 _ _ (by omega) (by omega) (by rw [show (wv + 1).toNat = wv.toNat + 1 by omega]; simp only [dgN]; rw [← hh1, h22, show ((wv.toNat : Nat) : Int) = wv by omega]))
  exact R_sub [2, 3, 4, 1, 0] rfl (lp_6 _ _ _ (Nat.lt_succ_self _) (by omega) rfl)
