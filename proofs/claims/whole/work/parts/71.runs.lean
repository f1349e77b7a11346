theorem s_runs {Θ : Th} {σ : Mem} (hN : NPre σ) : Spc Θ M_X8_runs 0 [.ref (Th.r Θ 1)] σ (fun _ σ' => RunQ σ σ') := by
  refine Spc_of (by decide +kernel) (Nat.le_of_ble_eq_true rfl) (fun Γ hB hE => ?_)
  show Run Θ Γ 0 [(0, .ref (Th.r Θ 1))] [] σ
  obtain ⟨n1, n2, n3, n4, n5, n6, n7⟩ := id hN
  refine R_iconst hB dX8_runs_0 ?_
  refine R_istore_n hB (L' := [_, _]) dX8_runs_1 rfl (Nat.le_of_ble_eq_true rfl) rfl ?_
  have lp_2 : ∀ (n_2 : Nat) (a : Int) (σ1 : Mem), ((9 - a).toNat) < n_2 → (0 ≤ a ∧ a ≤ 9) → (Same NS σ σ1) → (∀ x, 0 ≤ x → x < 8 * a → σ1 64 x = 0 ∧ σ1 65 x = 0) → Run Θ Γ 2 [(0, .ref (Th.r Θ 1)), (1, .int (I a))] [] σ1 := by
    intro n_2
    induction n_2 with
    | zero => intro a σ1 h_m; exact absurd h_m (Nat.not_lt_zero _)
    | succ n_2 ih_2 =>
      intro a σ1 h_m ha hS1 hz1
      refine R_iload_n hB (j := 1) dX8_runs_2 rfl rfl ?_
      refine R_bipush hB dX8_runs_3 rfl ?_
      refine R_icmp_ge hB 52 (by omega) (by omega) dX8_runs_5 rfl (fun h5 => ?_) (fun h5 => ?_)
      · refine R_iconst hB dX8_runs_52 ?_
        refine R_istore_n hB (L' := [_, _]) dX8_runs_53 rfl (Nat.le_of_ble_eq_true rfl) rfl ?_
        have lp_54 : ∀ (n_54 : Nat) (k : Int) (σ5 : Mem), ((σ 1 2 - k).toNat) < n_54 → (0 ≤ k ∧ k ≤ σ 1 2) → (Same NS σ σ5) → (∀ j, 0 ≤ j → j < k → RnQ σ σ5 j) → (∀ j, k ≤ j → j < 8 → ∀ d, 0 ≤ d → d < 9 → σ5 64 (8 * d + j) = 0 ∧ σ5 65 (8 * d + j) = 0) → Run Θ Γ 54 [(0, .ref (Th.r Θ 1)), (1, .int (I k))] [] σ5 := by
          intro n_54
          induction n_54 with
          | zero => intro k σ5 h_m; exact absurd h_m (Nat.not_lt_zero _)
          | succ n_54 ih_54 =>
            intro k σ5 h_m hk hS5 hdn hz5
            have j1 : σ5 1 = σ 1 := hS5 1 (by decide)
            refine R_iload_n hB (j := 1) dX8_runs_54 rfl rfl ?_
            refine R_aload_n hB (j := 0) dX8_runs_55 rfl rfl ?_
            refine R_geti hB fl_X8_114 dX8_runs_56 rfl ?_
            refine R_icmp_ge hB 220 (by omega) (by rw [j1]; omega) dX8_runs_59 rfl (fun h59 => ?_) (fun h59 => ?_)
            · rw [j1] at h59
              exact R_vret hB hE rfl dX8_runs_220 (by
                have hk2 : k = σ 1 2 := by omega
                rw [hk2] at hdn
                exact ⟨hS5, hdn⟩)
            · rw [j1] at h59
              refine R_aload_n hB (j := 0) dX8_runs_62 rfl rfl ?_
              refine R_iload_n hB (j := 1) dX8_runs_63 rfl rfl ?_
              refine R_cV0 hB (s_sleeps k (hN.same hS5) (by rw [j1]; omega) (fun d d1 d2 => hz5 k (by omega) (by omega) d d1 d2)) mv_X8_164 rfl rfl (by decide) dX8_runs_64 rfl rfl (Nat.le_of_ble_eq_true rfl) (fun σ6 h64 => ?_)
              obtain ⟨s1, s2⟩ := h64
              obtain ⟨t1, t2, t3, t4⟩ := NMI_tr hS5 s2
              have hS6 : Same NS σ σ6 := hS5.tr s1 (fun _ q => q) (fun _ q => q)
              refine R_iconst hB dX8_runs_67 ?_
              refine R_istore_n hB (L' := [_, _, _]) dX8_runs_68 rfl (Nat.le_of_ble_eq_true rfl) rfl ?_
              have lp_69 : ∀ (n_69 : Nat) (d : Int) (σ7 : Mem), ((σ 1 7 - d).toNat) < n_69 → (0 ≤ d ∧ d ≤ σ 1 7) → (Same NS σ σ7) → (∀ i, i ≠ 65 → σ7 i = σ6 i) → (∀ e j : Int, 0 ≤ j → j < 8 → j ≠ k → 0 ≤ e → e < 9 → σ7 65 (8 * e + j) = σ6 65 (8 * e + j)) → (∀ e, 0 ≤ e → e < d → σ7 65 (8 * e + k) = if mTS σ k e = true then 1 else 0) → (∀ e, d ≤ e → e < 9 → σ7 65 (8 * e + k) = σ6 65 (8 * e + k)) → Run Θ Γ 69 [(0, .ref (Th.r Θ 1)), (1, .int (I k)), (2, .int (I d))] [] σ7 := by
                intro n_69
                induction n_69 with
                | zero => intro d σ7 h_m; exact absurd h_m (Nat.not_lt_zero _)
                | succ n_69 ih_69 =>
                  intro d σ7 h_m hd hS7 hO hX hA hC
                  have l1 : σ7 1 = σ 1 := hS7 1 (by decide)
                  have l59 : σ7 59 = σ 59 := hS7 59 (by decide)
                  refine R_iload_n hB (j := 2) dX8_runs_69 rfl rfl ?_
                  refine R_aload_n hB (j := 0) dX8_runs_70 rfl rfl ?_
                  refine R_geti hB fl_X8_117 dX8_runs_71 rfl ?_
                  refine R_icmp_ge hB 214 (by omega) (by rw [l1]; omega) dX8_runs_74 rfl (fun h74 => ?_) (fun h74 => ?_)
                  · rw [l1] at h74
                    refine R_iinc hB (j := 1) (L' := [_, _, _]) dX8_runs_214 rfl (Nat.le_of_ble_eq_true rfl) rfl ?_
                    refine R_goto hB 54 dX8_runs_217 rfl ?_
                    exact R_sub [1, 0] rfl (ih_54 _ _ (by omega) (by omega) hS7 (fun j q1 q2 => by
                      have hdn2 : d = σ 1 7 := by omega
                      by_cases c : j = k
                      · rw [c]
                        refine ⟨fun e w1 w2 => ⟨?_, hA e w1 (by omega)⟩, fun e w1 w2 => ?_, ?_⟩
                        · rw [hO 64 (by decide)]; exact (t4 e w1 (by omega)).1
                        · rw [hO 62 (by decide)]; exact (t3 e w1 w2).2
                        · rw [hO 66 (by decide)]; exact t2
                      · obtain ⟨r1, r2, r3⟩ := hdn j q1 (by omega)
                        obtain ⟨v1, v2, v3⟩ := t1 j q1 (by omega) c
                        refine ⟨fun e w1 w2 => ⟨?_, ?_⟩, fun e w1 w2 => ?_, ?_⟩
                        · rw [hO 64 (by decide), (v1 e w1 (by omega)).1]; exact (r1 e w1 w2).1
                        · rw [hX _ j q1 (by omega) c w1 (by omega), (v1 e w1 (by omega)).2]; exact (r1 e w1 w2).2
                        · rw [hO 62 (by decide), v2 e w1 w2]; exact r2 e w1 w2
                        · rw [hO 66 (by decide), v3]; exact r3) (fun j q1 q2 e w1 w2 => by
                      obtain ⟨v1, v2, v3⟩ := t1 j (by omega) q2 (by omega)
                      rw [hO 64 (by decide), hX _ j (by omega) q2 (by omega) w1 w2, (v1 e w1 w2).1, (v1 e w1 w2).2]
                      exact hz5 j (by omega) q2 e w1 w2))
                  · rw [l1] at h74
                    have hdd := n4 d hd.1 h74
                    refine R_aload_n hB (j := 0) dX8_runs_77 rfl rfl ?_
                    refine R_getr hB (59) fl_X8_28 dX8_runs_78 rfl rfl ?_
                    refine R_iload_n hB (j := 2) dX8_runs_81 rfl rfl ?_
                    refine R_iald hB rfl (by omega) dX8_runs_82 ?_
                    refine R_aload_n hB (j := 0) dX8_runs_83 rfl rfl ?_
                    refine R_geti hB fl_X8_90 dX8_runs_84 rfl ?_
                    refine R_isub hB dX8_runs_87 ?_
                    have jn_106 : ∀ (f : Int), (f = max 0 (σ 59 d - σ 1 12)) → Run Θ Γ 106 [(0, .ref (Th.r Θ 1)), (1, .int (I k)), (2, .int (I d))] [.int (I f)] σ7 := by
                      intro f hf
                      refine R_istore_n hB (L' := [_, _, _, _]) dX8_runs_106 rfl (Nat.le_of_ble_eq_true rfl) rfl ?_
                      have lp_107 : ∀ (n_107 : Nat) (g : Int) (σ8 : Mem), ((σ 59 d + 1 - g).toNat) < n_107 → (f ≤ g ∧ g ≤ σ 59 d + 1) → (∀ i, i ≠ 65 → σ8 i = σ7 i) → (∀ x, x ≠ 8 * d + k → σ8 65 x = σ7 65 x) → ((σ8 65 (8 * d + k) = 0 ∨ σ8 65 (8 * d + k) = 1) ∧ (σ8 65 (8 * d + k) = 1 ↔ (σ7 65 (8 * d + k) = 1 ∧ ∀ h, f ≤ h → h < g → σ7 63 (50 * k + h) = 0))) → Run Θ Γ 107 [(0, .ref (Th.r Θ 1)), (1, .int (I k)), (2, .int (I d)), (3, .int (I g))] [] σ8 := by
                        intro n_107
                        induction n_107 with
                        | zero => intro g σ8 h_m; exact absurd h_m (Nat.not_lt_zero _)
                        | succ n_107 ih_107 =>
                          intro g σ8 h_m hg hP hY hV
                          have o1 : σ8 1 = σ 1 := by rw [hP 1 (by decide), l1]
                          have o59 : σ8 59 = σ 59 := by rw [hP 59 (by decide), l59]
                          have o63 : σ8 63 = σ6 63 := by rw [hP 63 (by decide), hO 63 (by decide)]
                          have hV1 := hV.1
                          refine R_iload_n hB (j := 3) dX8_runs_107 rfl rfl ?_
                          refine R_aload_n hB (j := 0) dX8_runs_108 rfl rfl ?_
                          refine R_getr hB (59) fl_X8_28 dX8_runs_109 rfl rfl ?_
                          refine R_iload_n hB (j := 2) dX8_runs_112 rfl rfl ?_
                          refine R_iald hB rfl (by omega) dX8_runs_113 ?_
                          refine R_icmp_gt hB 167 (by omega) (by rw [o59]; omega) dX8_runs_114 rfl (fun h114 => ?_) (fun h114 => ?_)
                          · rw [o59] at h114
                            refine R_aload_n hB (j := 0) dX8_runs_167 rfl rfl ?_
                            refine R_getr hB (65) fl_X8_47 dX8_runs_168 rfl rfl ?_
                            refine R_bipush hB dX8_runs_171 rfl ?_
                            refine R_iload_n hB (j := 2) dX8_runs_173 rfl rfl ?_
                            refine R_imul hB dX8_runs_174 ?_
                            refine R_iload_n hB (j := 1) dX8_runs_175 rfl rfl ?_
                            refine R_iadd hB dX8_runs_176 ?_
                            refine R_aload_n hB (j := 0) dX8_runs_177 rfl rfl ?_
                            refine R_getr hB (65) fl_X8_47 dX8_runs_178 rfl rfl ?_
                            refine R_bipush hB dX8_runs_181 rfl ?_
                            refine R_iload_n hB (j := 2) dX8_runs_183 rfl rfl ?_
                            refine R_imul hB dX8_runs_184 ?_
                            refine R_iload_n hB (j := 1) dX8_runs_185 rfl rfl ?_
                            refine R_iadd hB dX8_runs_186 ?_
                            refine R_zald hB rfl (by omega) dX8_runs_187 ?_
                            have jn_207 : ∀ (tv : Int), (tv = if σ8 65 (8 * d + k) ≠ 0 ∧ σ 1 15 / 2 ^ k.toNat % 2 ≠ 1 then 1 else 0) → Run Θ Γ 207 [(0, .ref (Th.r Θ 1)), (1, .int (I k)), (2, .int (I d)), (3, .int (I g))] [.int (I tv), .int (I (((8) * (d)) + (k))), .ref (Th.r Θ 65)] σ8 := by
                              intro tv htv
                              refine N_zast hB rfl (by omega) (by rw [htv]; split <;> omega) dX8_runs_207 (fun σ10 e10 => ?_)
                              refine R_iinc hB (j := 2) (L' := [_, _, _, _]) dX8_runs_208 rfl (Nat.le_of_ble_eq_true rfl) rfl ?_
                              refine R_goto hB 69 dX8_runs_211 rfl ?_
                              exact R_sub [1, 2, 0] rfl (ih_69 _ _ (by omega) (by omega) (fun i hi => by
                                have hi2 := hi
                                simp only [List.mem_cons, List.not_mem_nil, or_false, not_or] at hi2
                                rw [e10, up_row hi2.2.2.2.1, hP i hi2.2.2.2.1, hS7 i hi]) (fun i q => by rw [e10, up_row q, hP i q, hO i q]) (fun e j q1 q2 q3 q4 q5 => by rw [e10, up_n (by omega), hY _ (by omega)]; exact hX e j q1 q2 q3 q4 q5) (fun e q1 q2 => by
                                by_cases c : e = d
                                · rw [c, e10, up_s, htv]
                                  have hg2 : g = σ 59 d + 1 := by omega
                                  rw [hg2] at hV
                                  have lt := late_f (k := k) hdd.1 n5.2.1.1 hf
                                  have b1 := (t4 d hd.1 (by omega)).2
                                  rw [hC d (by omega) (by omega), b1] at hV
                                  unfold mTS tsL
                                  cases hl : lateL (mz σ k) (σ 59) (σ 60) (σ 61) (mE σ 50) (σ 56 k) (σ 1 12) (σ 59 d) with
                                  | true =>
                                    have nn : ¬ σ8 65 (8 * d + k) = 1 := fun q => by
                                      have q2 := (hV.2.mp q).2
                                      have q3 := lt.mpr (fun h w1 w2 w3 => by
                                        have := q2 h w1 w2
                                        rw [hO 63 (by decide), (t3 h (by omega) (by omega)).1, if_pos w3] at this
                                        exact absurd this (by decide))
                                      rw [hl] at q3
                                      exact absurd q3 (by decide)
                                    rw [if_neg (fun q => nn (by omega))]
                                    simp
                                  | false =>
                                    have q3 := lt.mp hl
                                    have hall : ∀ h, f ≤ h → h < σ 59 d + 1 → σ7 63 (50 * k + h) = 0 := fun h w1 w2 => by
                                      rw [hO 63 (by decide), (t3 h (by omega) (by omega)).1, if_neg (q3 h w1 w2)]
                                    by_cases cb : mft σ k d (mE σ 50) = 3 ∧ σ 1 11 ≤ mdp σ k d (mE σ 50)
                                    · have hone : σ8 65 (8 * d + k) = 1 := hV.2.mpr ⟨by rw [if_pos cb], hall⟩
                                      rw [hone, decide_eq_true cb]
                                      simp
                                    · have nn : ¬ σ8 65 (8 * d + k) = 1 := fun q => by
                                        have := (hV.2.mp q).1
                                        rw [if_neg cb] at this
                                        exact absurd this (by decide)
                                      rw [if_neg (fun q => nn (by omega)), decide_eq_false cb]
                                      simp
                                · rw [e10, up_n (by omega), hY _ (by omega)]
                                  exact hA e q1 (by omega)) (fun e q1 q2 => by rw [e10, up_n (by omega), hY _ (by omega)]; exact hC e (by omega) q2))
                            refine R_if_eq hB 206 (by omega) dX8_runs_188 rfl (fun h188 => ?_) (fun h188 => ?_)
                            · refine R_iconst hB dX8_runs_206 ?_
                              exact R_sub [0, 1, 2, 3] rfl (jn_207 _ (by first | (split <;> omega) | (split at h196 <;> split <;> omega)))
                            · refine R_aload_n hB (j := 0) dX8_runs_191 rfl rfl ?_
                              refine R_geti hB fl_X8_168 dX8_runs_192 rfl ?_
                              refine R_iload_n hB (j := 1) dX8_runs_195 rfl rfl ?_
                              refine P_cS1 hB (s_isIn _ _ (by rw [o1]; omega) (by omega)) ms_X8_157 (by decide) dX8_runs_196 rfl rfl (Nat.le_of_ble_eq_true rfl) (fun z196 h196 => ?_)
                              rw [o1] at h196
                              refine R_if_ne hB 206 (by rw [h196]; split <;> omega) dX8_runs_199 rfl (fun h199 => ?_) (fun h199 => ?_)
                              · refine R_iconst hB dX8_runs_206 ?_
                                exact R_sub [0, 1, 2, 3] rfl (jn_207 _ (by first | (split <;> omega) | (split at h196 <;> split <;> omega)))
                              · refine R_iconst hB dX8_runs_202 ?_
                                refine R_goto hB 207 dX8_runs_203 rfl ?_
                                exact R_sub [0, 1, 2, 3] rfl (jn_207 _ (by first | (split <;> omega) | (split at h196 <;> split <;> omega)))
                          · rw [o59] at h114
                            refine R_aload_n hB (j := 0) dX8_runs_117 rfl rfl ?_
                            refine R_getr hB (65) fl_X8_47 dX8_runs_118 rfl rfl ?_
                            refine R_bipush hB dX8_runs_121 rfl ?_
                            refine R_iload_n hB (j := 2) dX8_runs_123 rfl rfl ?_
                            refine R_imul hB dX8_runs_124 ?_
                            refine R_iload_n hB (j := 1) dX8_runs_125 rfl rfl ?_
                            refine R_iadd hB dX8_runs_126 ?_
                            refine R_aload_n hB (j := 0) dX8_runs_127 rfl rfl ?_
                            refine R_getr hB (65) fl_X8_47 dX8_runs_128 rfl rfl ?_
                            refine R_bipush hB dX8_runs_131 rfl ?_
                            refine R_iload_n hB (j := 2) dX8_runs_133 rfl rfl ?_
                            refine R_imul hB dX8_runs_134 ?_
                            refine R_iload_n hB (j := 1) dX8_runs_135 rfl rfl ?_
                            refine R_iadd hB dX8_runs_136 ?_
                            refine R_zald hB rfl (by omega) dX8_runs_137 ?_
                            have jn_160 : ∀ (tu : Int), (tu = if σ8 65 (8 * d + k) ≠ 0 ∧ σ8 63 (50 * k + g) = 0 then 1 else 0) → Run Θ Γ 160 [(0, .ref (Th.r Θ 1)), (1, .int (I k)), (2, .int (I d)), (3, .int (I g))] [.int (I tu), .int (I (((8) * (d)) + (k))), .ref (Th.r Θ 65)] σ8 := by
                              intro tu htu
                              refine N_zast hB rfl (by omega) (by rw [htu]; split <;> omega) dX8_runs_160 (fun σ9 e9 => ?_)
                              refine R_iinc hB (j := 3) (L' := [_, _, _, _]) dX8_runs_161 rfl (Nat.le_of_ble_eq_true rfl) rfl ?_
                              refine R_goto hB 107 dX8_runs_164 rfl ?_
                              exact R_sub [1, 2, 3, 0] rfl (ih_107 _ _ (by omega) (by omega) (fun i q => by rw [e9, up_row q, hP i q]) (fun x q => by rw [e9, up_n (by omega), hY x q]) (by
                                rw [e9, up_s, htu]
                                refine ⟨by split <;> omega, ⟨fun q => ?_, fun q => ?_⟩⟩
                                · have c : σ8 65 (8 * d + k) ≠ 0 ∧ σ8 63 (50 * k + g) = 0 := by
                                    by_cases c : σ8 65 (8 * d + k) ≠ 0 ∧ σ8 63 (50 * k + g) = 0
                                    · exact c
                                    · rw [if_neg c] at q; omega
                                  have q2 := hV.2.mp (by omega)
                                  refine ⟨q2.1, fun h w1 w2 => ?_⟩
                                  by_cases ch : h = g
                                  · rw [ch, ← hP 63 (by decide)]; exact c.2
                                  · exact q2.2 h w1 (by omega)
                                · have q2 := hV.2.mpr ⟨q.1, fun h w1 w2 => q.2 h w1 (by omega)⟩
                                  have q3 := q.2 g hg.1 (by omega)
                                  rw [if_pos ⟨by omega, by rw [hP 63 (by decide)]; exact q3⟩]))
                            refine R_if_eq hB 159 (by omega) dX8_runs_138 rfl (fun h138 => ?_) (fun h138 => ?_)
                            · refine R_iconst hB dX8_runs_159 ?_
                              exact R_sub [0, 1, 2, 3] rfl (jn_160 _ (by split <;> omega))
                            · refine R_aload_n hB (j := 0) dX8_runs_141 rfl rfl ?_
                              refine R_getr hB (63) fl_X8_40 dX8_runs_142 rfl rfl ?_
                              refine R_bipush hB dX8_runs_145 rfl ?_
                              refine R_iload_n hB (j := 1) dX8_runs_147 rfl rfl ?_
                              refine R_imul hB dX8_runs_148 ?_
                              refine R_iload_n hB (j := 3) dX8_runs_149 rfl rfl ?_
                              refine R_iadd hB dX8_runs_150 ?_
                              refine R_zald hB rfl (by omega) dX8_runs_151 ?_
                              refine R_if_ne hB 159 (by rw [o63, (t3 g (by omega) (by omega)).1]; split <;> omega) dX8_runs_152 rfl (fun h152 => ?_) (fun h152 => ?_)
                              · refine R_iconst hB dX8_runs_159 ?_
                                exact R_sub [0, 1, 2, 3] rfl (jn_160 _ (by split <;> omega))
                              · refine R_iconst hB dX8_runs_155 ?_
                                refine R_goto hB 160 dX8_runs_156 rfl ?_
                                exact R_sub [0, 1, 2, 3] rfl (jn_160 _ (by split <;> omega))
                      exact R_sub [1, 2, 3, 0] rfl (lp_107 _ _ _ (Nat.lt_succ_self _) (by omega) (fun i q => rfl) (fun x q => rfl) (by
                        rw [hC d (by omega) (by omega), (t4 d hd.1 (by omega)).2]
                        refine ⟨by split <;> omega, ⟨fun q => ⟨q, fun h q1 q2 => by omega⟩, fun q => q.1⟩⟩))
                    refine R_if_ge hB 95 (by rw [l59, l1]; omega) dX8_runs_88 rfl (fun h88 => ?_) (fun h88 => ?_)
                    · rw [l59, l1] at h88
                      refine R_aload_n hB (j := 0) dX8_runs_95 rfl rfl ?_
                      refine R_getr hB (59) fl_X8_28 dX8_runs_96 rfl rfl ?_
                      refine R_iload_n hB (j := 2) dX8_runs_99 rfl rfl ?_
                      refine R_iald hB rfl (by omega) dX8_runs_100 ?_
                      refine R_aload_n hB (j := 0) dX8_runs_101 rfl rfl ?_
                      refine R_geti hB fl_X8_90 dX8_runs_102 rfl ?_
                      refine R_isub hB dX8_runs_105 ?_
                      exact R_sub [0, 1, 2] rfl (jn_106 _ (by rw [l59, l1]; omega))
                    · rw [l59, l1] at h88
                      refine R_iconst hB dX8_runs_91 ?_
                      refine R_goto hB 106 dX8_runs_92 rfl ?_
                      exact R_sub [0, 1, 2] rfl (jn_106 _ (by omega))
              exact R_sub [1, 2, 0] rfl (lp_69 _ _ _ (Nat.lt_succ_self _) (by omega) hS6 (fun i q => rfl) (fun e j q1 q2 q3 q4 q5 => rfl) (fun e q1 q2 => by omega) (fun e q1 q2 => rfl))
        exact R_sub [1, 0] rfl (lp_54 _ _ _ (Nat.lt_succ_self _) (by omega) hS1 (fun j j1 j2 => by omega) (fun j j1 j2 d d1 d2 => hz1 _ (by omega) (by omega)))
      · refine R_iconst hB dX8_runs_8 ?_
        refine R_istore_n hB (L' := [_, _, _]) dX8_runs_9 rfl (Nat.le_of_ble_eq_true rfl) rfl ?_
        have lp_10 : ∀ (n_10 : Nat) (b : Int) (σ2 : Mem), ((8 - b).toNat) < n_10 → (0 ≤ b ∧ b ≤ 8) → (Same NS σ σ2) → (∀ x, 0 ≤ x → x < 8 * a + b → σ2 64 x = 0 ∧ σ2 65 x = 0) → Run Θ Γ 10 [(0, .ref (Th.r Θ 1)), (1, .int (I a)), (2, .int (I b))] [] σ2 := by
          intro n_10
          induction n_10 with
          | zero => intro b σ2 h_m; exact absurd h_m (Nat.not_lt_zero _)
          | succ n_10 ih_10 =>
            intro b σ2 h_m hb hS2 hz2
            refine R_iload_n hB (j := 2) dX8_runs_10 rfl rfl ?_
            refine R_bipush hB dX8_runs_11 rfl ?_
            refine R_icmp_ge hB 46 (by omega) (by omega) dX8_runs_13 rfl (fun h13 => ?_) (fun h13 => ?_)
            · refine R_iinc hB (j := 1) (L' := [_, _, _]) dX8_runs_46 rfl (Nat.le_of_ble_eq_true rfl) rfl ?_
              refine R_goto hB 2 dX8_runs_49 rfl ?_
              exact R_sub [1, 0] rfl (ih_2 _ _ (by omega) (by omega) hS2 (fun x x1 x2 => hz2 x x1 (by omega)))
            · refine R_aload_n hB (j := 0) dX8_runs_16 rfl rfl ?_
              refine R_getr hB (64) fl_X8_44 dX8_runs_17 rfl rfl ?_
              refine R_bipush hB dX8_runs_20 rfl ?_
              refine R_iload_n hB (j := 1) dX8_runs_22 rfl rfl ?_
              refine R_imul hB dX8_runs_23 ?_
              refine R_iload_n hB (j := 2) dX8_runs_24 rfl rfl ?_
              refine R_iadd hB dX8_runs_25 ?_
              refine R_iconst hB dX8_runs_26 ?_
              refine N_iast hB rfl (by omega) (by omega) dX8_runs_27 (fun σ3 e3 => ?_)
              refine R_aload_n hB (j := 0) dX8_runs_28 rfl rfl ?_
              refine R_getr hB (65) fl_X8_47 dX8_runs_29 rfl rfl ?_
              refine R_bipush hB dX8_runs_32 rfl ?_
              refine R_iload_n hB (j := 1) dX8_runs_34 rfl rfl ?_
              refine R_imul hB dX8_runs_35 ?_
              refine R_iload_n hB (j := 2) dX8_runs_36 rfl rfl ?_
              refine R_iadd hB dX8_runs_37 ?_
              refine R_iconst hB dX8_runs_38 ?_
              refine N_zast hB rfl (by omega) (by omega) dX8_runs_39 (fun σ4 e4 => ?_)
              refine R_iinc hB (j := 2) (L' := [_, _, _]) dX8_runs_40 rfl (Nat.le_of_ble_eq_true rfl) rfl ?_
              refine R_goto hB 10 dX8_runs_43 rfl ?_
              exact R_sub [1, 2, 0] rfl (ih_10 _ _ (by omega) (by omega) (fun i hi => by
                have hi2 := hi
                simp only [List.mem_cons, List.not_mem_nil, or_false, not_or] at hi2
                rw [e4, up_row hi2.2.2.2.1, e3, up_row hi2.2.2.1, hS2 i hi]) (fun x x1 x2 => by
                by_cases c : x = 8 * a + b
                · rw [e4, up_i (by decide), e3, c, up_s, up_s]; exact ⟨rfl, rfl⟩
                · rw [e4, up_i (by decide), e3, up_n (by omega), up_n (by omega), up_i (by decide)]; exact hz2 x x1 (by omega)))
        exact R_sub [1, 2, 0] rfl (lp_10 _ _ _ (Nat.lt_succ_self _) (by omega) hS1 (fun x x1 x2 => hz1 x x1 (by omega)))
  exact R_sub [1, 0] rfl (lp_2 _ _ _ (Nat.lt_succ_self _) (by omega) Same.rf (fun x x1 x2 => by omega))
