theorem s_feign {Θ : Th} {σ : Mem} (c d w : Int) (hcr : rng c) (hdr : rng d) (hwr : rng w) (h : InvC σ) : Spc Θ M_X7_feign 2 [.ref (Th.r Θ 0), .int (I c), .int (I d), .int (I w)] σ (fun r σ' => Same SC σ σ' ∧ ((¬ ((0 ≤ c ∧ c < 17) ∧ (0 ≤ d ∧ d < σ 2 4) ∧ (0 ≤ w ∧ w < 2)) ∧ r = -9223372036854775806) ∨ (((0 ≤ c ∧ c < 17) ∧ (0 ≤ d ∧ d < σ 2 4) ∧ (0 ≤ w ∧ w < 2)) ∧ ∃ a b, RedQ (fgT σ c d) (4 * fgM σ d) a b ∧ r = if w = 0 then a else b))) := by
  refine Spc_of (by decide +kernel) (Nat.le_of_ble_eq_true rfl) (fun Γ hB hE => ?_)
  show Run Θ Γ 0 [(0, .ref (Th.r Θ 0)), (1, .int (I c)), (2, .int (I d)), (3, .int (I w))] [] σ
  have hns := h.ns
  have hw := h.row
  have hn := hw.1
  have hr := h.2.2.2.1
  have hr2 := hr.2.2
  refine R_iload_n hB (j := 1) dX7_feign_0 rfl rfl ?_
  refine R_bipush hB dX7_feign_1 rfl ?_
  refine P_cS1 hB (s_within _ _ (by omega) (by omega)) ms_X7_89 (by decide) dX7_feign_3 rfl rfl (Nat.le_of_ble_eq_true rfl) (fun z3 h3 => ?_)
  refine R_if_eq hB 31 (by rw [h3]; split <;> omega) dX7_feign_6 rfl (fun h6 => ?_) (fun h6 => ?_)
  · have hno : ¬ ((0 ≤ c ∧ c < 17) ∧ (0 ≤ d ∧ d < σ 2 4) ∧ (0 ≤ w ∧ w < 2)) := by split at h3 <;> omega
    refine R_bipush hB dX7_feign_31 rfl ?_
    refine P_cS2 hB (s_longRefusal _ (by omega)) ms_X7_275 (by decide) dX7_feign_33 rfl rfl (Nat.le_of_ble_eq_true rfl) (fun z33 h33 => ?_)
    exact R_lret hB hE rfl dX7_feign_36 (⟨Same.rf, Or.inl ⟨hno, by omega⟩⟩)
  · have hc : 0 ≤ c ∧ c < 17 := by split at h3 <;> omega
    refine R_iload_n hB (j := 2) dX7_feign_9 rfl rfl ?_
    refine R_aload_n hB (j := 0) dX7_feign_10 rfl rfl ?_
    refine R_getr hB (2) fl_X7_24 dX7_feign_11 rfl rfl ?_
    refine R_geti hB fl_X7_140 dX7_feign_14 rfl ?_
    refine P_cS1 hB (s_within _ _ (by omega) (by omega)) ms_X7_89 (by decide) dX7_feign_17 rfl rfl (Nat.le_of_ble_eq_true rfl) (fun z17 h17 => ?_)
    refine R_if_eq hB 31 (by rw [h17]; split <;> omega) dX7_feign_20 rfl (fun h20 => ?_) (fun h20 => ?_)
    · have hno : ¬ ((0 ≤ c ∧ c < 17) ∧ (0 ≤ d ∧ d < σ 2 4) ∧ (0 ≤ w ∧ w < 2)) := by split at h17 <;> omega
      refine R_bipush hB dX7_feign_31 rfl ?_
      refine P_cS2 hB (s_longRefusal _ (by omega)) ms_X7_275 (by decide) dX7_feign_33 rfl rfl (Nat.le_of_ble_eq_true rfl) (fun z33 h33 => ?_)
      exact R_lret hB hE rfl dX7_feign_36 (⟨Same.rf, Or.inl ⟨hno, by omega⟩⟩)
    · have hy : 0 ≤ d ∧ d < σ 2 4 := by split at h17 <;> omega
      refine R_iload_n hB (j := 3) dX7_feign_23 rfl rfl ?_
      refine R_iconst hB dX7_feign_24 ?_
      refine P_cS1 hB (s_within _ _ (by omega) (by omega)) ms_X7_89 (by decide) dX7_feign_25 rfl rfl (Nat.le_of_ble_eq_true rfl) (fun z25 h25 => ?_)
      refine R_if_ne hB 37 (by rw [h25]; split <;> omega) dX7_feign_28 rfl (fun h28 => ?_) (fun h28 => ?_)
      · have hz : 0 ≤ w ∧ w < 2 := by split at h25 <;> omega
        refine R_aload_n hB (j := 0) dX7_feign_37 rfl rfl ?_
        refine R_aload_n hB (j := 0) dX7_feign_38 rfl rfl ?_
        refine R_getr hB (2) fl_X7_24 dX7_feign_39 rfl rfl ?_
        refine R_cV0 hB (s_hearAll_2 hns (fun s hs => h.bed hs) hw hr) mv_X7_185 rfl rfl (by decide) dX7_feign_42 rfl rfl (Nat.le_of_ble_eq_true rfl) (fun σ1 h42 => ?_)
        rw [hw.2.2] at h42
        obtain ⟨j1, j2, j3, j4, j5⟩ := h42
        have k0 : σ1 0 = σ 0 := j1 0 (by decide)
        have k2 : σ1 2 = σ 2 := j1 2 (by decide)
        have k25 : σ1 25 = σ 25 := j1 25 (by decide)
        have h256 := p2_256 (σ 2 4).toNat (by omega)
        have hT : ∀ s : Nat, s < (σ 0 2).toNat → σ1 48 s = bsum (fun d : Nat => cTS σ s (d : Int)) (σ 2 4).toNat := fun s hs => j5 s (by omega)
        have ht : ∀ s, 0 ≤ s → s < σ1 6 1 → 0 ≤ σ1 48 s ∧ σ1 48 s < 256 := fun s q1 q2 => by
          have := hT s.toNat (by omega)
          rw [show ((s.toNat : Nat) : Int) = s by omega] at this
          have hb := bsum_in (fun d : Nat => cTS σ s.toNat (d : Int)) (σ 2 4).toNat
          omega
        refine R_aload_n hB (j := 0) dX7_feign_45 rfl rfl ?_
        refine R_getr hB (6) fl_X7_63 dX7_feign_46 rfl rfl ?_
        refine R_iload_n hB (j := 2) dX7_feign_49 rfl rfl ?_
        refine P_cV1 hB (s_witnesses d (by omega) (by omega) ht) mv_X7_189 rfl rfl (by decide) dX7_feign_50 rfl rfl (Nat.le_of_ble_eq_true rfl) (fun z50 h50 => ?_)
        rw [j2, wit_bits hT (d := d.toNat) (by omega)] at h50
        simp only [show ((d.toNat : Nat) : Int) = d by omega] at h50
        have hb := bsum_in (fun s => cTS σ s d) (σ 0 2).toNat
        have hb8 := p2_256 (σ 0 2).toNat (by omega)
        rw [← h50] at hb
        have hcn := cnt_in (fun s => cTS σ s d) (σ 0 2).toNat
        refine P_cS1 hB (s_bitCount _ (by omega)) ms_X7_192 (by decide) dX7_feign_53 rfl rfl (Nat.le_of_ble_eq_true rfl) (fun z53 h53 => ?_)
        rw [h50, pc8_bsum _ (by omega)] at h53
        rw [← h53] at hcn
        have hM : z53.toNat = fgM σ d := by unfold fgM; rw [h53]
        have hM2 : ((fgM σ d : Nat) : Int) = z53 := by omega
        refine R_istore hB (L' := [_, _, _, _, _]) dX7_feign_56 (Nat.le_of_ble_eq_true rfl) rfl ?_
        refine R_aload_n hB (j := 1) dX7_feign_58 rfl rfl ?_
        refine R_iload hB (j := 0) dX7_feign_59 rfl ?_
        refine R_iload_n hB (j := 2) dX7_feign_61 rfl rfl ?_
        refine R_cV0 hB (s_spreadWays z53 c (by omega) (by omega)) mv_X7_279 rfl rfl (by decide) dX7_feign_62 rfl rfl (Nat.le_of_ble_eq_true rfl) (fun σ2 h62 => ?_)
        obtain ⟨u1, u2⟩ := h62
        rw [hM] at u2
        have l25 : σ2 25 = σ 25 := by rw [u1 25 (by decide), k25]
        have hS2 : Same SC σ σ2 := (j1.tr u1 (T := SC) (by simp) (by simp))
        have p8 := p16_le (fgM σ d) (by omega)
        have p80 := p16_pos (fgM σ d)
        refine R_lconst hB (z := 0) dX7_feign_65 rfl ?_
        refine R_lstore hB (L' := [_, _, _, _, _, _]) dX7_feign_66 (Nat.le_of_ble_eq_true rfl) rfl ?_
        refine R_aload_n hB (j := 2) dX7_feign_68 rfl rfl ?_
        refine R_getr hB (25) fl_X7_28 dX7_feign_69 rfl rfl ?_
        refine R_iconst hB dX7_feign_72 ?_
        refine R_iald hB rfl (by omega) dX7_feign_73 ?_
        refine R_nmi (fun pf hpf => ?_)
        refine R_istore hB (L' := [_, _, _, _, _, _, _]) dX7_feign_74 (Nat.le_of_ble_eq_true rfl) rfl ?_
        have lp_76 : ∀ (n_76 : Nat) (ab k : Int), ((z53 + 1 - k).toNat) < n_76 → (σ 25 2 ≤ k ∧ k ≤ 9) → (k ≤ σ 25 2 ∨ k ≤ z53 + 1) → (ab = abv c (σ 25 2) (fgM σ d) (k - σ 25 2).toNat) → (0 ≤ ab ∧ ab ≤ (k - σ 25 2) * 4294967296) → Run Θ Γ 76 [(0, .ref (Th.r Θ 0)), (1, .int (I c)), (2, .int (I d)), (3, .int (I w)), (4, .int (I z53)), (5, .long (Jl ab)), (7, .int (I k))] [] σ2 := by
          intro n_76
          induction n_76 with
          | zero => intro ab k h_m; exact absurd h_m (Nat.not_lt_zero _)
          | succ n_76 ih_76 =>
            intro ab k h_m hk hkm hab habb
            refine R_iload hB (j := 6) dX7_feign_76 rfl ?_
            refine R_iload hB (j := 4) dX7_feign_78 rfl ?_
            refine R_icmp_gt hB 101 (by omega) (by omega) dX7_feign_80 rfl (fun h80 => ?_) (fun h80 => ?_)
            · have htop : ab = fgT σ c d := by
                rw [hab]; unfold fgT; congr 1; omega
              refine R_lconst hB (z := 1) dX7_feign_101 rfl ?_
              refine R_iconst hB dX7_feign_102 ?_
              refine R_iload hB (j := 4) dX7_feign_103 rfl ?_
              refine R_imul hB dX7_feign_105 ?_
              refine R_lshl hB (2 ^ (4 * fgM σ d)) (by rw [show (4 : Int) * z53 = ((4 * fgM σ d : Nat) : Int) by omega]; exact j_shl1 _ (by omega)) dX7_feign_106 ?_
              refine R_lstore hB (L' := [_, _, _, _, _, _, _]) dX7_feign_107 (Nat.le_of_ble_eq_true rfl) rfl ?_
              refine R_iconst hB dX7_feign_109 ?_
              refine R_istore hB (L' := [_, _, _, _, _, _, _, _]) dX7_feign_110 (Nat.le_of_ble_eq_true rfl) rfl ?_
              have lp_112 : ∀ (n_112 : Nat) (a b j : Int), ((32 - j).toNat) < n_112 → (0 ≤ j ∧ j ≤ 32) → (j.toNat ≤ 4 * fgM σ d) → (a * 2 ^ j.toNat = fgT σ c d) → (b = 2 ^ (4 * fgM σ d - j.toNat)) → (0 ≤ a ∧ a ≤ 40000000000) → Run Θ Γ 112 [(0, .ref (Th.r Θ 0)), (1, .int (I c)), (2, .int (I d)), (3, .int (I w)), (4, .int (I z53)), (5, .long (Jl a)), (7, .long (Jl b)), (9, .int (I j))] [] σ2 := by
                intro n_112
                induction n_112 with
                | zero => intro a b j h_m; exact absurd h_m (Nat.not_lt_zero _)
                | succ n_112 ih_112 =>
                  intro a b j h_m hj hje ha2 hb2 hab2
                  have pb := p2_33 (4 * fgM σ d - j.toNat) (by omega)
                  have pb0 := p2_pos (4 * fgM σ d - j.toNat)
                  rw [← hb2] at pb pb0
                  have jn_153 : ∀ (a2 b2 : Int), (RedQ (fgT σ c d) (4 * fgM σ d) a2 b2) → Run Θ Γ 153 [(0, .ref (Th.r Θ 0)), (1, .int (I c)), (2, .int (I d)), (3, .int (I w)), (4, .int (I z53)), (5, .long (Jl a2)), (7, .long (Jl b2))] [] σ2 := by
                    intro a2 b2 hred
                    refine R_iload_n hB (j := 3) dX7_feign_153 rfl rfl ?_
                    refine R_if_ne hB 162 (by omega) dX7_feign_154 rfl (fun h154 => ?_) (fun h154 => ?_)
                    · refine R_lload hB (j := 6) dX7_feign_162 rfl ?_
                      exact R_lret hB hE rfl dX7_feign_164 (⟨hS2, Or.inr ⟨⟨hc, hy, hz⟩, a2, b2, hred, by first | rw [if_pos h154] | rw [if_neg h154]⟩⟩)
                    · refine R_lload hB (j := 5) dX7_feign_157 rfl ?_
                      refine R_goto hB 164 dX7_feign_159 rfl ?_
                      exact R_lret hB hE rfl dX7_feign_164 (⟨hS2, Or.inr ⟨⟨hc, hy, hz⟩, a2, b2, hred, by first | rw [if_pos h154] | rw [if_neg h154]⟩⟩)
                  refine R_iload hB (j := 7) dX7_feign_112 rfl ?_
                  refine R_bipush hB dX7_feign_114 rfl ?_
                  refine R_icmp_ge hB 153 (by omega) (by omega) dX7_feign_116 rfl (fun h116 => ?_) (fun h116 => ?_)
                  · exact R_sub [0, 1, 2, 3, 4, 5, 6] rfl (jn_153 _ _ ⟨j.toNat, hje, ha2, hb2, Or.inl (by rw [hb2, show 4 * fgM σ d - j.toNat = 0 by omega]; rfl)⟩)
                  · refine R_lload hB (j := 6) dX7_feign_119 rfl ?_
                    refine R_lconst hB (z := 1) dX7_feign_121 rfl ?_
                    refine R_lcmp hB (by omega) (by omega) dX7_feign_122 ?_
                    refine R_if_le hB 153 (by split <;> (try split) <;> omega) dX7_feign_123 rfl (fun h123 => ?_) (fun h123 => ?_)
                    · exact R_sub [0, 1, 2, 3, 4, 5, 6] rfl (jn_153 _ _ ⟨j.toNat, hje, ha2, hb2, Or.inl (by split at h123 <;> (try split at h123) <;> omega)⟩)
                    · have hb1 : 1 < b := by split at h123 <;> (try split at h123) <;> omega
                      have hje2 : (j + 1).toNat ≤ 4 * fgM σ d := by
                        by_cases q : 4 * fgM σ d - j.toNat = 0
                        · rw [q] at hb2
                          have : (2 : Int) ^ 0 = 1 := rfl
                          omega
                        · omega
                      refine R_lload hB (j := 5) dX7_feign_126 rfl ?_
                      refine R_lconst hB (z := 1) dX7_feign_128 rfl ?_
                      refine R_land hB (a % 2) (j_and1 (by omega)) dX7_feign_129 ?_
                      refine R_lconst hB (z := 0) dX7_feign_130 rfl ?_
                      refine R_lcmp hB (by omega) (by omega) dX7_feign_131 ?_
                      refine R_if_ne hB 153 (by split <;> (try split) <;> omega) dX7_feign_132 rfl (fun h132 => ?_) (fun h132 => ?_)
                      · exact R_sub [0, 1, 2, 3, 4, 5, 6] rfl (jn_153 _ _ ⟨j.toNat, hje, ha2, hb2, Or.inr (by split at h132 <;> (try split at h132) <;> omega)⟩)
                      · have hev : a % 2 = 0 := by split at h132 <;> (try split at h132) <;> omega
                        refine R_lload hB (j := 5) dX7_feign_135 rfl ?_
                        refine R_iconst hB dX7_feign_137 ?_
                        refine R_lshr hB (a / 2) (j_shr1 (by omega)) dX7_feign_138 ?_
                        refine R_lstore hB (L' := [_, _, _, _, _, _, _, _]) dX7_feign_139 (Nat.le_of_ble_eq_true rfl) rfl ?_
                        refine R_lload hB (j := 6) dX7_feign_141 rfl ?_
                        refine R_iconst hB dX7_feign_143 ?_
                        refine R_lshr hB (b / 2) (j_shr1 (by omega)) dX7_feign_144 ?_
                        refine R_lstore hB (L' := [_, _, _, _, _, _, _, _]) dX7_feign_145 (Nat.le_of_ble_eq_true rfl) rfl ?_
                        refine R_iinc hB (j := 7) (L' := [_, _, _, _, _, _, _, _]) dX7_feign_147 rfl (Nat.le_of_ble_eq_true rfl) rfl ?_
                        refine R_goto hB 112 dX7_feign_150 rfl ?_
                        exact R_sub [3, 4, 5, 6, 7, 2, 1, 0] rfl (ih_112 _ _ _ (by omega) (by omega) hje2 (by
                          rw [show (j + 1).toNat = j.toNat + 1 by omega, Int.pow_succ, ← Int.mul_assoc, Int.mul_right_comm, show a / 2 * 2 = a by omega]
                          exact ha2) (by rw [hb2, half_pow (by omega), show (j + 1).toNat = j.toNat + 1 by omega]) (by omega))
              exact R_sub [2, 3, 4, 5, 6, 7, 1, 0] rfl (lp_112 _ _ _ _ (Nat.lt_succ_self _) (by omega) (by simp) (by rw [← htop]; simp) (by simp) (by omega))
            · refine R_lload hB (j := 5) dX7_feign_83 rfl ?_
              refine R_aload_n hB (j := 0) dX7_feign_85 rfl rfl ?_
              refine R_getr hB (28) fl_X7_74 dX7_feign_86 rfl rfl ?_
              refine R_iload hB (j := 6) dX7_feign_89 rfl ?_
              refine R_lald hB rfl (by omega) dX7_feign_91 ?_
              have hwk := wy_in (c := c) (by omega) (fgM σ d) k
              refine R_ladd hB dX7_feign_92 ?_
              refine R_lstore hB (L' := [_, _, _, _, _, _, _]) dX7_feign_93 (Nat.le_of_ble_eq_true rfl) rfl ?_
              refine R_iinc hB (j := 6) (L' := [_, _, _, _, _, _, _]) dX7_feign_95 rfl (Nat.le_of_ble_eq_true rfl) rfl ?_
              refine R_goto hB 76 dX7_feign_98 rfl ?_
              exact R_sub [2, 3, 4, 5, 6, 1, 0] rfl (ih_76 _ _ (by omega) (by omega) (by omega) (by
                rw [show (k + 1 - σ 25 2).toNat = (k - σ 25 2).toNat + 1 by omega]
                simp only [abv]
                rw [← hab, show σ 25 2 + (((k - σ 25 2).toNat : Nat) : Int) = k by omega, u2 k (by omega) (by omega)]) (by rw [u2 k (by omega) (by omega)]; omega))
        exact R_sub [3, 4, 5, 6, 2, 1, 0] rfl (lp_76 _ _ _ (Nat.lt_succ_self _) (by rw [hpf, l25]; omega) (by left; rw [hpf, l25]; omega) (by rw [hpf, l25, show σ 25 2 - σ 25 2 = 0 by omega]; rfl) (by rw [hpf, l25]; omega))
      · have hno : ¬ ((0 ≤ c ∧ c < 17) ∧ (0 ≤ d ∧ d < σ 2 4) ∧ (0 ≤ w ∧ w < 2)) := by split at h25 <;> omega
        refine R_bipush hB dX7_feign_31 rfl ?_
        refine P_cS2 hB (s_longRefusal _ (by omega)) ms_X7_275 (by decide) dX7_feign_33 rfl rfl (Nat.le_of_ble_eq_true rfl) (fun z33 h33 => ?_)
        exact R_lret hB hE rfl dX7_feign_36 (⟨Same.rf, Or.inl ⟨hno, by omega⟩⟩)
