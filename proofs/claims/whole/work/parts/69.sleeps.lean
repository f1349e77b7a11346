theorem s_sleeps {Θ : Th} {σ : Mem} (k : Int) (hN : NPre σ) (hk : 0 ≤ k ∧ k < σ 1 2) (h0 : ∀ d, 0 ≤ d → d < 9 → σ 64 (8 * d + k) = 0 ∧ σ 65 (8 * d + k) = 0) : Spc Θ M_X8_sleeps 0 [.ref (Th.r Θ 1), .int (I k)] σ (fun _ σ' => Same NS σ σ' ∧ NMI σ σ' k (mE σ 50) 50) := by
  refine Spc_of (by decide +kernel) (Nat.le_of_ble_eq_true rfl) (fun Γ hB hE => ?_)
  show Run Θ Γ 0 [(0, .ref (Th.r Θ 1)), (1, .int (I k))] [] σ
  obtain ⟨n1, n2, n3, n4, n5, n6, n7⟩ := hN
  have hb := n3 k hk.1 hk.2
  have hb2 := hb
  obtain ⟨m0, m1, m2, m3⟩ := mz_v σ k
  unfold BedOK at hb2
  rw [m0, m1, m2, m3] at hb2
  obtain ⟨b0, b1, b2, b3⟩ := hb2
  refine R_aload_n hB (j := 0) dX8_sleeps_0 rfl rfl ?_
  refine R_getr hB (56) fl_X8_19 dX8_sleeps_1 rfl rfl ?_
  refine R_iload_n hB (j := 1) dX8_sleeps_4 rfl rfl ?_
  refine R_iald hB rfl (by omega) dX8_sleeps_5 ?_
  refine R_istore_n hB (L' := [_, _, _]) dX8_sleeps_6 rfl (Nat.le_of_ble_eq_true rfl) rfl ?_
  refine R_aload_n hB (j := 1) dX8_sleeps_7 rfl rfl ?_
  refine R_getr hB (66) fl_X8_50 dX8_sleeps_8 rfl rfl ?_
  refine R_iload_n hB (j := 2) dX8_sleeps_11 rfl rfl ?_
  refine R_iconst hB dX8_sleeps_12 ?_
  refine N_iast hB rfl (by omega) (by omega) dX8_sleeps_13 (fun σ1 e1 => ?_)
  refine R_iconst hB dX8_sleeps_14 ?_
  refine R_istore_n hB (L' := [_, _, _, _]) dX8_sleeps_15 rfl (Nat.le_of_ble_eq_true rfl) rfl ?_
  have lp_16 : ∀ (n_16 : Nat) (h la : Int) (σ2 : Mem), ((50 - h).toNat) < n_16 → (0 ≤ h ∧ h ≤ 50) → (la = mln σ k (mE σ h.toNat)) → (Same NS σ σ2) → (NMI σ σ2 k (mE σ h.toNat) h) → Run Θ Γ 16 [(0, .ref (Th.r Θ 1)), (1, .int (I k)), (2, .int (I la)), (3, .int (I h))] [] σ2 := by
    intro n_16
    induction n_16 with
    | zero => intro h la σ2 h_m; exact absurd h_m (Nat.not_lt_zero _)
    | succ n_16 ih_16 =>
      intro h la σ2 h_m hh hla hS2 hI0
      have k2_1 : σ2 1 = σ 1 := hS2 1 (by decide)
      have k2_55 : σ2 55 = σ 55 := hS2 55 (by decide)
      have k2_56 : σ2 56 = σ 56 := hS2 56 (by decide)
      have k2_57 : σ2 57 = σ 57 := hS2 57 (by decide)
      have k2_58 : σ2 58 = σ 58 := hS2 58 (by decide)
      have k2_59 : σ2 59 = σ 59 := hS2 59 (by decide)
      have k2_60 : σ2 60 = σ 60 := hS2 60 (by decide)
      have k2_61 : σ2 61 = σ 61 := hS2 61 (by decide)
      have hlb := mln_in (es := mE σ h.toNat) hb (fun e he => by have := (mE_mem he).1; omega)
      rw [← hla] at hlb
      refine R_iload_n hB (j := 3) dX8_sleeps_16 rfl rfl ?_
      refine R_bipush hB dX8_sleeps_17 rfl ?_
      refine R_icmp_ge hB 237 (by omega) (by omega) dX8_sleeps_19 rfl (fun h19 => ?_) (fun h19 => ?_)
      · exact R_vret hB hE rfl dX8_sleeps_237 (by
          have h50 : h = 50 := by omega
          subst h50
          exact ⟨hS2, hI0⟩)
      · refine R_iload_n hB (j := 3) dX8_sleeps_22 rfl rfl ?_
        refine R_iload_n hB (j := 2) dX8_sleeps_23 rfl rfl ?_
        have jn_39 : ∀ (de : Int), (de = deepOf (σ 57 k) (σ 58 k) (h - la)) → Run Θ Γ 39 [(0, .ref (Th.r Θ 1)), (1, .int (I k)), (2, .int (I la)), (3, .int (I h))] [.int (I de)] σ2 := by
          intro de hde
          refine R_istore hB (L' := [_, _, _, _, _]) dX8_sleeps_39 (Nat.le_of_ble_eq_true rfl) rfl ?_
          refine R_aload_n hB (j := 1) dX8_sleeps_41 rfl rfl ?_
          refine R_getr hB (62) fl_X8_37 dX8_sleeps_42 rfl rfl ?_
          refine R_bipush hB dX8_sleeps_45 rfl ?_
          refine R_iload_n hB (j := 2) dX8_sleeps_47 rfl rfl ?_
          refine R_imul hB dX8_sleeps_48 ?_
          refine R_iload_n hB (j := 4) dX8_sleeps_49 rfl rfl ?_
          refine R_iadd hB dX8_sleeps_50 ?_
          refine R_iload hB (j := 0) dX8_sleeps_51 rfl ?_
          refine N_iast hB rfl (by omega) (by have := deepOf_in (su := σ 57 k) (kd := σ 58 k) (h := h - la) b2; omega) dX8_sleeps_53 (fun σ3 e3 => ?_)
          refine R_aload_n hB (j := 1) dX8_sleeps_54 rfl rfl ?_
          refine R_getr hB (63) fl_X8_40 dX8_sleeps_55 rfl rfl ?_
          refine R_bipush hB dX8_sleeps_58 rfl ?_
          refine R_iload_n hB (j := 2) dX8_sleeps_60 rfl rfl ?_
          refine R_imul hB dX8_sleeps_61 ?_
          refine R_iload_n hB (j := 4) dX8_sleeps_62 rfl rfl ?_
          refine R_iadd hB dX8_sleeps_63 ?_
          refine R_iconst hB dX8_sleeps_64 ?_
          refine N_zast hB rfl (by omega) (by omega) dX8_sleeps_65 (fun σ4 e4 => ?_)
          refine R_iconst hB dX8_sleeps_66 ?_
          refine R_istore hB (L' := [_, _, _, _, _, _]) dX8_sleeps_67 (Nat.le_of_ble_eq_true rfl) rfl ?_
          have lp_69 : ∀ (n_69 : Nat) (d dd lb : Int) (σ5 : Mem), ((σ 1 7 - d).toNat) < n_69 → (0 ≤ d ∧ d ≤ σ 1 7) → (StI σ σ5 k h d lb dd) → Run Θ Γ 69 [(0, .ref (Th.r Θ 1)), (1, .int (I k)), (2, .int (I lb)), (3, .int (I h)), (4, .int (I dd)), (5, .int (I d))] [] σ5 := by
            intro n_69
            induction n_69 with
            | zero => intro d dd lb σ5 h_m; exact absurd h_m (Nat.not_lt_zero _)
            | succ n_69 ih_69 =>
              intro d dd lb σ5 h_m hd hI
              have hS5 := hI.1
              have k5_1 : σ5 1 = σ 1 := hS5 1 (by decide)
              have k5_55 : σ5 55 = σ 55 := hS5 55 (by decide)
              have k5_56 : σ5 56 = σ 56 := hS5 56 (by decide)
              have k5_57 : σ5 57 = σ 57 := hS5 57 (by decide)
              have k5_58 : σ5 58 = σ 58 := hS5 58 (by decide)
              have k5_59 : σ5 59 = σ 59 := hS5 59 (by decide)
              have k5_60 : σ5 60 = σ 60 := hS5 60 (by decide)
              have k5_61 : σ5 61 = σ 61 := hS5 61 (by decide)
              have hde := hI.2.2.2
              have hlb2 := mln_in (es := esI σ h d) hb (fun e he => by have := esI_mem hh.1 hd.1 he; omega)
              rw [← hI.2.2.1] at hlb2
              have hdb := deepOf_in (su := σ 57 k) (kd := σ 58 k) (h := h - lb) b2
              rw [← hde] at hdb
              refine R_iload hB (j := 5) dX8_sleeps_69 rfl ?_
              refine R_aload_n hB (j := 0) dX8_sleeps_71 rfl rfl ?_
              refine R_geti hB fl_X8_117 dX8_sleeps_72 rfl ?_
              refine R_icmp_ge hB 231 (by omega) (by rw [k5_1]; omega) dX8_sleeps_75 rfl (fun h75 => ?_) (fun h75 => ?_)
              · rw [k5_1] at h75
                refine R_iinc hB (j := 3) (L' := [_, _, _, _, _, _]) dX8_sleeps_231 rfl (Nat.le_of_ble_eq_true rfl) rfl ?_
                refine R_goto hB 16 dX8_sleeps_234 rfl ?_
                exact R_sub [1, 2, 3, 0] rfl (ih_16 _ _ _ (by omega) (by omega) (by
                  have hdn : d = σ 1 7 := by omega
                  rw [← esI_n σ hh.1, ← hdn]; exact hI.2.2.1) hI.1 (by
                  have hdn : d = σ 1 7 := by omega
                  rw [← esI_n σ hh.1, ← hdn]; exact hI.2.1))
              · rw [k5_1] at h75
                have hdd := n4 d hd.1 h75
                refine R_aload_n hB (j := 0) dX8_sleeps_78 rfl rfl ?_
                refine R_getr hB (59) fl_X8_28 dX8_sleeps_79 rfl rfl ?_
                refine R_iload hB (j := 5) dX8_sleeps_82 rfl ?_
                refine R_iald hB rfl (by omega) dX8_sleeps_84 ?_
                refine R_iload_n hB (j := 3) dX8_sleeps_85 rfl rfl ?_
                refine R_icmp_ne hB 225 (by rw [k5_59]; omega) (by omega) dX8_sleeps_86 rfl (fun h86 => ?_) (fun h86 => ?_)
                · rw [k5_59] at h86
                  have hn := StI_skip hI hd.1 hh.1 (fun q => h86 q.1)
                  refine R_iinc hB (j := 5) (L' := [_, _, _, _, _, _]) dX8_sleeps_225 rfl (Nat.le_of_ble_eq_true rfl) rfl ?_
                  refine R_goto hB 69 dX8_sleeps_228 rfl ?_
                  exact R_sub [1, 2, 3, 4, 5, 0] rfl (ih_69 _ _ _ _ (by omega) (by omega) hn)
                · rw [k5_59] at h86
                  refine R_aload_n hB (j := 0) dX8_sleeps_89 rfl rfl ?_
                  refine R_geti hB fl_X8_154 dX8_sleeps_90 rfl ?_
                  refine R_iload hB (j := 5) dX8_sleeps_93 rfl ?_
                  refine P_cS1 hB (s_isIn _ _ (by rw [k5_1]; omega) (by omega)) ms_X8_157 (by decide) dX8_sleeps_95 rfl rfl (Nat.le_of_ble_eq_true rfl) (fun z95 h95 => ?_)
                  rw [k5_1] at h95
                  refine R_if_ne hB 225 (by rw [h95]; split <;> omega) dX8_sleeps_98 rfl (fun h98 => ?_) (fun h98 => ?_)
                  · have hn := StI_skip hI hd.1 hh.1 (fun q => by
                      have q2 := of_decide_eq_true q.2
                      rw [if_neg q2] at h95
                      exact h98 h95)
                    refine R_iinc hB (j := 5) (L' := [_, _, _, _, _, _]) dX8_sleeps_225 rfl (Nat.le_of_ble_eq_true rfl) rfl ?_
                    refine R_goto hB 69 dX8_sleeps_228 rfl ?_
                    exact R_sub [1, 2, 3, 4, 5, 0] rfl (ih_69 _ _ _ _ (by omega) (by omega) hn)
                  · have hp : mP σ d = true := by
                      refine decide_eq_true (fun q => ?_)
                      rw [if_pos q] at h95
                      omega
                    refine R_aload_n hB (j := 0) dX8_sleeps_101 rfl rfl ?_
                    refine R_iload hB (j := 5) dX8_sleeps_102 rfl ?_
                    refine R_iload_n hB (j := 1) dX8_sleeps_104 rfl rfl ?_
                    refine P_cV1 hB (s_mloud _ _ (by omega) (by omega) (by rw [k5_55]; exact b0) (by rw [k5_60]; omega) (by rw [k5_61]; omega)) mv_X8_161 rfl rfl (by decide) dX8_sleeps_105 rfl rfl (Nat.le_of_ble_eq_true rfl) (fun z105 h105 => ?_)
                    rw [k5_55, k5_60, k5_61] at h105
                    have hlo := loudOf_in (ho := σ 55 k) (fr := σ 60 d) hdd.2.2
                    rw [← h105] at hlo
                    refine R_istore hB (L' := [_, _, _, _, _, _, _]) dX8_sleeps_108 (Nat.le_of_ble_eq_true rfl) rfl ?_
                    refine R_iload hB (j := 0) dX8_sleeps_110 rfl ?_
                    have jn_142 : ∀ (w : Int), (w = fateOf z105 dd) → Run Θ Γ 142 [(0, .ref (Th.r Θ 1)), (1, .int (I k)), (2, .int (I lb)), (3, .int (I h)), (4, .int (I dd)), (5, .int (I d)), (6, .int (I z105))] [.int (I w)] σ5 := by
                      intro w hw
                      refine R_istore hB (L' := [_, _, _, _, _, _, _, _]) dX8_sleeps_142 (Nat.le_of_ble_eq_true rfl) rfl ?_
                      refine R_aload_n hB (j := 1) dX8_sleeps_144 rfl rfl ?_
                      refine R_getr hB (64) fl_X8_44 dX8_sleeps_145 rfl rfl ?_
                      refine R_bipush hB dX8_sleeps_148 rfl ?_
                      refine R_iload hB (j := 6) dX8_sleeps_150 rfl ?_
                      refine R_imul hB dX8_sleeps_152 ?_
                      refine R_iload_n hB (j := 2) dX8_sleeps_153 rfl rfl ?_
                      refine R_iadd hB dX8_sleeps_154 ?_
                      refine R_iload hB (j := 0) dX8_sleeps_155 rfl ?_
                      refine N_iast hB rfl (by omega) (by have := fateOf_in z105 dd; omega) dX8_sleeps_157 (fun σ6 e6 => ?_)
                      refine R_aload_n hB (j := 1) dX8_sleeps_158 rfl rfl ?_
                      refine R_getr hB (65) fl_X8_47 dX8_sleeps_159 rfl rfl ?_
                      refine R_bipush hB dX8_sleeps_162 rfl ?_
                      refine R_iload hB (j := 6) dX8_sleeps_164 rfl ?_
                      refine R_imul hB dX8_sleeps_166 ?_
                      refine R_iload_n hB (j := 2) dX8_sleeps_167 rfl rfl ?_
                      refine R_iadd hB dX8_sleeps_168 ?_
                      refine R_iload hB (j := 0) dX8_sleeps_169 rfl ?_
                      refine R_iconst hB dX8_sleeps_171 ?_
                      have jn_189 : ∀ (tv : Int), (tv = if w = 3 ∧ σ 1 11 ≤ dd then 1 else 0) → Run Θ Γ 189 [(0, .ref (Th.r Θ 1)), (1, .int (I k)), (2, .int (I lb)), (3, .int (I h)), (4, .int (I dd)), (5, .int (I d)), (6, .int (I z105)), (7, .int (I w))] [.int (I tv), .int (I (((8) * (d)) + (k))), .ref (Th.r Θ 65)] σ6 := by
                        intro tv htv
                        refine N_zast hB rfl (by omega) (by rw [htv]; split <;> omega) dX8_sleeps_189 (fun σ7 e7 => ?_)
                        have M := StI_meet (σ3 := σ7) hI ⟨hd.1, h75⟩ (by omega) (by omega) (by omega) h86 hp (show w = ftw (mz σ k) (σ 59) (σ 60) (σ 61) d lb by
                          unfold ftw ldw dpw
                          rw [m0, m2, m3, ← h105, h86, ← hde]; exact hw) htv (by rw [e7, e6])
                        refine R_iload hB (j := 7) dX8_sleeps_190 rfl ?_
                        refine R_iconst hB dX8_sleeps_192 ?_
                        refine R_icmp_ne hB 225 (by have := fateOf_in z105 dd; omega) (by omega) dX8_sleeps_193 rfl (fun h193 => ?_) (fun h193 => ?_)
                        · have hn := M.1 h193
                          refine R_iinc hB (j := 5) (L' := [_, _, _, _, _, _, _, _]) dX8_sleeps_225 rfl (Nat.le_of_ble_eq_true rfl) rfl ?_
                          refine R_goto hB 69 dX8_sleeps_228 rfl ?_
                          exact R_sub [1, 2, 3, 4, 5, 0] rfl (ih_69 _ _ _ _ (by omega) (by omega) hn)
                        · refine R_iconst hB dX8_sleeps_196 ?_
                          refine R_istore hB (L' := [_, _, _, _, _, _, _, _]) dX8_sleeps_197 (Nat.le_of_ble_eq_true rfl) rfl ?_
                          refine R_iload_n hB (j := 4) dX8_sleeps_199 rfl rfl ?_
                          refine R_iconst hB dX8_sleeps_200 ?_
                          refine R_iadd hB dX8_sleeps_201 ?_
                          refine R_istore_n hB (L' := [_, _, _, _, _, _, _, _]) dX8_sleeps_202 rfl (Nat.le_of_ble_eq_true rfl) rfl ?_
                          refine R_aload_n hB (j := 2) dX8_sleeps_203 rfl rfl ?_
                          refine R_getr hB (66) fl_X8_50 dX8_sleeps_204 rfl rfl ?_
                          refine R_iload_n hB (j := 3) dX8_sleeps_207 rfl rfl ?_
                          refine R_dup2 hB dX8_sleeps_208 rfl rfl ?_
                          refine R_iald hB rfl (by omega) dX8_sleeps_209 ?_
                          refine R_iconst hB dX8_sleeps_210 ?_
                          refine R_iadd hB dX8_sleeps_211 ?_
                          refine N_iast hB rfl (by omega) (by
                            have r : σ7 66 k = σ5 66 k := by rw [e7, up_i (by decide), e6, up_i (by decide)]
                            have q1 := hI.2.1.2.1
                            have q2 : 0 ≤ mcn σ k 2 (fun _ => true) (esI σ h d) ∧ mcn σ k 2 (fun _ => true) (esI σ h d) ≤ (esI σ h d).length := cnL_in (z := mz σ k) (hr := σ 59) (ho := σ 60) (so := σ 61) 2 (fun _ => true) (esI σ h d) (σ 56 k)
                            have q3 := esI_len (σ := σ) (h := h) (d := d) (by omega) (by omega)
                            rw [r, q1]; omega) dX8_sleeps_212 (fun σ8 e8 => ?_)
                          refine R_aload_n hB (j := 2) dX8_sleeps_213 rfl rfl ?_
                          refine R_getr hB (63) fl_X8_40 dX8_sleeps_214 rfl rfl ?_
                          refine R_bipush hB dX8_sleeps_217 rfl ?_
                          refine R_iload_n hB (j := 3) dX8_sleeps_219 rfl rfl ?_
                          refine R_imul hB dX8_sleeps_220 ?_
                          refine R_iload_n hB (j := 4) dX8_sleeps_221 rfl rfl ?_
                          refine R_iadd hB dX8_sleeps_222 ?_
                          refine R_iconst hB dX8_sleeps_223 ?_
                          refine N_zast hB rfl (by omega) (by omega) dX8_sleeps_224 (fun σ9 e9 => ?_)
                          have hn := M.2 h193 σ9 (by rw [e9, e8])
                          refine R_iinc hB (j := 5) (L' := [_, _, _, _, _, _, _, _]) dX8_sleeps_225 rfl (Nat.le_of_ble_eq_true rfl) rfl ?_
                          refine R_goto hB 69 dX8_sleeps_228 rfl ?_
                          exact R_sub [3, 4, 1, 5, 2, 0] rfl (ih_69 _ _ _ _ (by omega) (by omega) hn)
                      refine R_icmp_ne hB 188 (by have := fateOf_in z105 dd; omega) (by omega) dX8_sleeps_172 rfl (fun h172 => ?_) (fun h172 => ?_)
                      · refine R_iconst hB dX8_sleeps_188 ?_
                        exact R_sub [1, 2, 3, 4, 5, 6, 7, 0] rfl (jn_189 _ (by split <;> omega))
                      · refine R_iload hB (j := 5) dX8_sleeps_175 rfl ?_
                        refine R_aload_n hB (j := 1) dX8_sleeps_177 rfl rfl ?_
                        refine R_geti hB fl_X8_86 dX8_sleeps_178 rfl ?_
                        refine R_icmp_lt hB 188 (by omega) (by rw [e6, up_i (by decide), k5_1]; omega) dX8_sleeps_181 rfl (fun h181 => ?_) (fun h181 => ?_)
                        · rw [e6, up_i (by decide), k5_1] at h181
                          refine R_iconst hB dX8_sleeps_188 ?_
                          exact R_sub [1, 2, 3, 4, 5, 6, 7, 0] rfl (jn_189 _ (by split <;> omega))
                        · rw [e6, up_i (by decide), k5_1] at h181
                          refine R_iconst hB dX8_sleeps_184 ?_
                          refine R_goto hB 189 dX8_sleeps_185 rfl ?_
                          exact R_sub [1, 2, 3, 4, 5, 6, 7, 0] rfl (jn_189 _ (by split <;> omega))
                    refine R_if_ne hB 119 (by omega) dX8_sleeps_112 rfl (fun h112 => ?_) (fun h112 => ?_)
                    · refine R_iload hB (j := 5) dX8_sleeps_119 rfl ?_
                      refine R_if_ne hB 128 (by omega) dX8_sleeps_121 rfl (fun h121 => ?_) (fun h121 => ?_)
                      · refine R_iload hB (j := 0) dX8_sleeps_128 rfl ?_
                        refine R_iload hB (j := 5) dX8_sleeps_130 rfl ?_
                        refine R_iconst hB dX8_sleeps_132 ?_
                        refine R_iadd hB dX8_sleeps_133 ?_
                        refine R_icmp_lt hB 141 (by omega) (by omega) dX8_sleeps_134 rfl (fun h134 => ?_) (fun h134 => ?_)
                        · refine R_iconst hB dX8_sleeps_141 ?_
                          exact R_sub [1, 2, 3, 4, 5, 6, 0] rfl (jn_142 _ (by unfold fateOf; (repeat split) <;> omega))
                        · refine R_iconst hB dX8_sleeps_137 ?_
                          refine R_goto hB 142 dX8_sleeps_138 rfl ?_
                          exact R_sub [1, 2, 3, 4, 5, 6, 0] rfl (jn_142 _ (by unfold fateOf; (repeat split) <;> omega))
                      · refine R_iconst hB dX8_sleeps_124 ?_
                        refine R_goto hB 142 dX8_sleeps_125 rfl ?_
                        exact R_sub [1, 2, 3, 4, 5, 6, 0] rfl (jn_142 _ (by unfold fateOf; (repeat split) <;> omega))
                    · refine R_iconst hB dX8_sleeps_115 ?_
                      refine R_goto hB 142 dX8_sleeps_116 rfl ?_
                      exact R_sub [1, 2, 3, 4, 5, 6, 0] rfl (jn_142 _ (by unfold fateOf; (repeat split) <;> omega))
          exact R_sub [2, 3, 4, 5, 1, 0] rfl (lp_69 _ _ _ _ _ (Nat.lt_succ_self _) (by omega) (NMI_hour hI0 hS2 (by omega) (by omega) hla hde (by rw [e4, e3])))
        refine R_icmp_ge hB 31 (by omega) (by omega) dX8_sleeps_24 rfl (fun h24 => ?_) (fun h24 => ?_)
        · refine R_aload_n hB (j := 0) dX8_sleeps_31 rfl rfl ?_
          refine R_iload_n hB (j := 1) dX8_sleeps_32 rfl rfl ?_
          refine R_iload_n hB (j := 3) dX8_sleeps_33 rfl rfl ?_
          refine R_iload_n hB (j := 2) dX8_sleeps_34 rfl rfl ?_
          refine R_isub hB dX8_sleeps_35 ?_
          refine P_cV1 hB (s_deepNow _ _ (by omega) (by omega) (by rw [k2_57]; exact b2) (by rw [k2_58]; exact b3)) mv_X8_151 rfl rfl (by decide) dX8_sleeps_36 rfl rfl (Nat.le_of_ble_eq_true rfl) (fun z36 h36 => ?_)
          rw [k2_57, k2_58] at h36
          exact R_sub [0, 1, 2, 3] rfl (jn_39 _ h36)
        · refine R_iconst hB dX8_sleeps_27 ?_
          refine R_goto hB 39 dX8_sleeps_28 rfl ?_
          exact R_sub [0, 1, 2, 3] rfl (jn_39 _ (by unfold deepOf; rw [if_pos (by omega)]))
  exact R_sub [2, 3, 1, 0] rfl (lp_16 _ _ _ _ (Nat.lt_succ_self _) (by omega) (by rfl) (by rw [e1]; exact Same.up (by decide)) (by
    refine ⟨fun j j1 j2 j3 => ⟨fun d d1 d2 => ?_, fun g g1 g2 => ?_, ?_⟩, ?_, fun g g1 g2 => by omega, fun d d1 d2 => ?_⟩
    · rw [e1, up_i (by decide), up_i (by decide)]; exact ⟨rfl, rfl⟩
    · rw [e1, up_i (by decide)]
    · rw [e1, up_n (by omega)]
    · rw [e1, up_s]; rfl
    · rw [e1, up_i (by decide), up_i (by decide), (h0 d d1 d2).1, (h0 d d1 d2).2]
      exact ⟨rfl, rfl⟩))
