theorem s_askNow {Θ : Th} {σ : Mem} (h : InvC σ) (hR : Rel σ) (hTa : TaR σ) : Spc Θ M_X8_askNow 1 [.ref (Th.r Θ 1)] σ (fun r σ' => FrM σ σ' ∧ RR σ' ∧ r = amx (aMost σ) (σ 0 2).toNat) := by
  refine Spc_of (by decide +kernel) (Nat.le_of_ble_eq_true rfl) (fun Γ hB hE => ?_)
  show Run Θ Γ 0 [(0, .ref (Th.r Θ 1))] [] σ
  have hns := h.ns
  have hds := h.row.1
  have mkb : ∀ s e : Nat, 0 ≤ mkW σ s e ∧ mkW σ s e ≤ 8 := fun s e => mkW_in σ s e hds
  have amb : ∀ s : Nat, 0 ≤ aMost σ s ∧ aMost σ s ≤ 8 := fun s => by
    have := mAl_in (nvB σ) (mkW σ s) (σ 2 4).toNat
    unfold aMost
    omega
  refine R_aload_n hB (j := 0) dX8_askNow_0 rfl rfl ?_
  refine R_cV1 hB (s_neverNow h hR hTa) mv_X8_254 rfl rfl (by decide) dX8_askNow_1 rfl rfl (Nat.le_of_ble_eq_true rfl) (fun z1 σ1 h1 => ?_)
  obtain ⟨f1, f2, c2, f4⟩ := h1
  have hbs := bsum_in (nvB σ) (σ 2 4).toNat
  rw [← c2] at hbs
  have h256 := p2_256 (σ 2 4).toNat (by omega)
  refine R_istore_n hB (L' := [_, _]) dX8_askNow_4 rfl (Nat.le_of_ble_eq_true rfl) rfl ?_
  refine R_iconst hB dX8_askNow_5 ?_
  refine R_istore_n hB (L' := [_, _, _]) dX8_askNow_6 rfl (Nat.le_of_ble_eq_true rfl) rfl ?_
  have lp_7 : ∀ (n_7 : Nat) (d : Int) (σ2 : Mem), ((σ 2 4 - d).toNat) < n_7 → (0 ≤ d ∧ d ≤ σ 2 4) → (FrM σ σ2) → (RR σ2) → (σ2 1 15 = 0) → (∀ e j : Nat, (e : Int) < d → (j : Int) < σ 0 2 → σ2 71 (8 * (e : Int) + j) = mkW σ j e) → Run Θ Γ 7 [(0, .ref (Th.r Θ 1)), (1, .int (I z1)), (2, .int (I d))] [] σ2 := by
    intro n_7
    induction n_7 with
    | zero => intro d σ2 h_m; exact absurd h_m (Nat.not_lt_zero _)
    | succ n_7 ih_7 =>
      intro d σ2 h_m hd F2 R2 M2 hA
      have p7 : σ2 1 7 = σ 2 4 := by rw [R2.2.2.2.1, F2.1 2 (by decide)]
      have p22 : σ2 1 2 = σ 0 2 := by rw [R2.2.2.1, F2.1 0 (by decide)]
      refine R_iload_n hB (j := 2) dX8_askNow_7 rfl rfl ?_
      refine R_aload_n hB (j := 0) dX8_askNow_8 rfl rfl ?_
      refine R_geti hB fl_X8_117 dX8_askNow_9 rfl ?_
      refine R_icmp_ge hB 65 (by omega) (by rw [p7]; omega) dX8_askNow_12 rfl (fun h12 => ?_) (fun h12 => ?_)
      · rw [p7] at h12
        refine R_iconst hB dX8_askNow_65 ?_
        refine R_istore_n hB (L' := [_, _, _]) dX8_askNow_66 rfl (Nat.le_of_ble_eq_true rfl) rfl ?_
        refine R_iconst hB dX8_askNow_67 ?_
        refine R_istore_n hB (L' := [_, _, _, _]) dX8_askNow_68 rfl (Nat.le_of_ble_eq_true rfl) rfl ?_
        refine R_iconst hB dX8_askNow_69 ?_
        refine R_istore hB (L' := [_, _, _, _, _]) dX8_askNow_70 (Nat.le_of_ble_eq_true rfl) rfl ?_
        have lp_72 : ∀ (n_72 : Nat) (be le k : Int), ((σ 0 2 - k).toNat) < n_72 → (0 ≤ k ∧ k ≤ σ 0 2) → (be = amx (aMost σ) k.toNat) → (-1 ≤ be ∧ be ≤ 8) → (0 ≤ be → le = 8 - aMost σ be.toNat) → (0 ≤ le ∧ le ≤ 8) → Run Θ Γ 72 [(0, .ref (Th.r Θ 1)), (1, .int (I z1)), (2, .int (I be)), (3, .int (I le)), (4, .int (I k))] [] σ2 := by
          intro n_72
          induction n_72 with
          | zero => intro be le k h_m; exact absurd h_m (Nat.not_lt_zero _)
          | succ n_72 ih_72 =>
            intro be le k h_m hk hbe hbb hle hlb
            refine R_iload hB (j := 4) dX8_askNow_72 rfl ?_
            refine R_aload_n hB (j := 0) dX8_askNow_74 rfl rfl ?_
            refine R_geti hB fl_X8_114 dX8_askNow_75 rfl ?_
            refine R_icmp_ge hB 244 (by omega) (by rw [p22]; omega) dX8_askNow_78 rfl (fun h78 => ?_) (fun h78 => ?_)
            · rw [p22] at h78
              refine R_iload_n hB (j := 2) dX8_askNow_244 rfl rfl ?_
              exact R_iret hB hE rfl dX8_askNow_245 (⟨F2, R2, by rw [hbe]; congr 1; omega⟩)
            · rw [p22] at h78
              refine R_iconst hB dX8_askNow_81 ?_
              refine R_istore hB (L' := [_, _, _, _, _, _]) dX8_askNow_82 (Nat.le_of_ble_eq_true rfl) rfl ?_
              refine R_iconst hB dX8_askNow_84 ?_
              refine R_istore hB (L' := [_, _, _, _, _, _, _]) dX8_askNow_85 (Nat.le_of_ble_eq_true rfl) rfl ?_
              have lp_87 : ∀ (n_87 : Nat) (mo i : Int), ((σ 2 4 - i).toNat) < n_87 → (0 ≤ i ∧ i ≤ σ 2 4) → (mo = mMo (nvB σ) (mkW σ k.toNat) (σ 2 4).toNat i.toNat) → Run Θ Γ 87 [(0, .ref (Th.r Θ 1)), (1, .int (I z1)), (2, .int (I be)), (3, .int (I le)), (4, .int (I k)), (5, .int (I mo)), (6, .int (I i))] [] σ2 := by
                intro n_87
                induction n_87 with
                | zero => intro mo i h_m; exact absurd h_m (Nat.not_lt_zero _)
                | succ n_87 ih_87 =>
                  intro mo i h_m hi hmo
                  have hmob := mMo_in (nvB σ) (mkW σ k.toNat) (σ 2 4).toNat i.toNat
                  rw [← hmo] at hmob
                  refine R_iload hB (j := 6) dX8_askNow_87 rfl ?_
                  refine R_aload_n hB (j := 0) dX8_askNow_89 rfl rfl ?_
                  refine R_geti hB fl_X8_117 dX8_askNow_90 rfl ?_
                  refine R_icmp_ge hB 196 (by omega) (by rw [p7]; omega) dX8_askNow_93 rfl (fun h93 => ?_) (fun h93 => ?_)
                  · rw [p7] at h93
                    have hmoN : mo = 8 - aMost σ k.toNat := by
                      have := mMo_mAl (nvB σ) (mkW σ k.toNat) (σ 2 4).toNat
                      rw [hmo, show i = σ 2 4 by omega, this]
                      unfold aMost
                      omega
                    have amk := amb k.toNat
                    refine R_iload_n hB (j := 2) dX8_askNow_196 rfl rfl ?_
                    refine R_iconst hB dX8_askNow_197 ?_
                    have jn_212 : ∀ (bt : Int), (bt = if be = -1 ∨ aMost σ be.toNat < aMost σ k.toNat then 1 else 0) → Run Θ Γ 212 [(0, .ref (Th.r Θ 1)), (1, .int (I z1)), (2, .int (I be)), (3, .int (I le)), (4, .int (I k)), (5, .int (I mo)), (6, .int (I i))] [.int (I bt)] σ2 := by
                      intro bt hbt
                      refine R_istore hB (L' := [_, _, _, _, _, _, _]) dX8_askNow_212 (Nat.le_of_ble_eq_true rfl) rfl ?_
                      refine R_iload hB (j := 0) dX8_askNow_214 rfl ?_
                      have jn_225 : ∀ (nb : Int), (nb = amx (aMost σ) (k + 1).toNat) → (-1 ≤ nb ∧ nb ≤ 8) → (nb = if bt = 0 then be else k) → Run Θ Γ 225 [(0, .ref (Th.r Θ 1)), (1, .int (I z1)), (2, .int (I be)), (3, .int (I le)), (4, .int (I k)), (5, .int (I mo)), (6, .int (I bt))] [.int (I nb)] σ2 := by
                        intro nb hnb hnb1 hnb2
                        refine R_istore_n hB (L' := [_, _, _, _, _, _, _]) dX8_askNow_225 rfl (Nat.le_of_ble_eq_true rfl) rfl ?_
                        refine R_iload hB (j := 6) dX8_askNow_226 rfl ?_
                        have jn_237 : ∀ (nl : Int), (0 ≤ nb → nl = 8 - aMost σ nb.toNat) → (0 ≤ nl ∧ nl ≤ 8) → Run Θ Γ 237 [(0, .ref (Th.r Θ 1)), (1, .int (I z1)), (2, .int (I nb)), (3, .int (I le)), (4, .int (I k)), (5, .int (I mo)), (6, .int (I bt))] [.int (I nl)] σ2 := by
                          intro nl hnl hnl1
                          refine R_istore_n hB (L' := [_, _, _, _, _, _, _]) dX8_askNow_237 rfl (Nat.le_of_ble_eq_true rfl) rfl ?_
                          refine R_iinc hB (j := 4) (L' := [_, _, _, _, _, _, _]) dX8_askNow_238 rfl (Nat.le_of_ble_eq_true rfl) rfl ?_
                          refine R_goto hB 72 dX8_askNow_241 rfl ?_
                          exact R_sub [2, 3, 4, 1, 0] rfl (ih_72 _ _ _ (by omega) (by omega) hnb hnb1 hnl hnl1)
                        refine R_if_eq hB 236 (by rw [hbt]; split <;> omega) dX8_askNow_228 rfl (fun h228 => ?_) (fun h228 => ?_)
                        · refine R_iload_n hB (j := 3) dX8_askNow_236 rfl rfl ?_
                          exact R_sub [1, 2, 0, 3, 4, 5, 6] rfl (jn_237 _ (fun q => by rw [if_pos h228] at hnb2; rw [hnb2] at q ⊢; exact hle q) (by omega))
                        · refine R_iload hB (j := 5) dX8_askNow_231 rfl ?_
                          refine R_goto hB 237 dX8_askNow_233 rfl ?_
                          exact R_sub [1, 2, 0, 3, 4, 5, 6] rfl (jn_237 _ (fun _ => by rw [hnb2, if_neg h228]; exact hmoN) (by omega))
                      refine R_if_eq hB 224 (by rw [hbt]; split <;> omega) dX8_askNow_216 rfl (fun h216 => ?_) (fun h216 => ?_)
                      · refine R_iload_n hB (j := 3) dX8_askNow_224 rfl rfl ?_
                        exact R_sub [1, 2, 3, 4, 5, 6, 0] rfl (jn_225 _ (by
                          rw [show (k + 1).toNat = k.toNat + 1 by omega]
                          simp only [amx]
                          rw [← hbe]
                          by_cases q : be = -1 ∨ aMost σ be.toNat < aMost σ k.toNat
                          · rw [if_pos q] at hbt; omega
                          · rw [if_neg q]) (by omega) (by rw [if_pos h216]))
                      · refine R_iload hB (j := 5) dX8_askNow_219 rfl ?_
                        refine R_goto hB 225 dX8_askNow_221 rfl ?_
                        exact R_sub [1, 2, 3, 4, 5, 6, 0] rfl (jn_225 _ (by
                          rw [show (k + 1).toNat = k.toNat + 1 by omega]
                          simp only [amx]
                          rw [← hbe]
                          by_cases q : be = -1 ∨ aMost σ be.toNat < aMost σ k.toNat
                          · rw [if_pos q]; omega
                          · rw [if_neg q] at hbt; omega) (by omega) (by rw [if_neg h216]))
                    refine R_icmp_eq hB 207 (by omega) (by omega) dX8_askNow_198 rfl (fun h198 => ?_) (fun h198 => ?_)
                    · refine R_iconst hB dX8_askNow_207 ?_
                      refine R_goto hB 212 dX8_askNow_208 rfl ?_
                      exact R_sub [0, 1, 2, 3, 4, 5, 6] rfl (jn_212 _ (by
                        rw [if_pos]
                        first
                        | exact Or.inl h198
                        | (right
                           have := hle (by omega)
                           omega)))
                    · refine R_iload hB (j := 5) dX8_askNow_201 rfl ?_
                      refine R_iload_n hB (j := 3) dX8_askNow_203 rfl rfl ?_
                      refine R_icmp_ge hB 211 (by omega) (by omega) dX8_askNow_204 rfl (fun h204 => ?_) (fun h204 => ?_)
                      · refine R_iconst hB dX8_askNow_211 ?_
                        exact R_sub [0, 1, 2, 3, 4, 5, 6] rfl (jn_212 _ (by
                          rw [if_neg]
                          intro q
                          rcases q with q | q
                          · exact h198 q
                          · have := hle (by omega)
                            omega))
                      · refine R_iconst hB dX8_askNow_207 ?_
                        refine R_goto hB 212 dX8_askNow_208 rfl ?_
                        exact R_sub [0, 1, 2, 3, 4, 5, 6] rfl (jn_212 _ (by
                          rw [if_pos]
                          first
                          | exact Or.inl h198
                          | (right
                             have := hle (by omega)
                             omega)))
                  · rw [p7] at h93
                    refine R_iconst hB dX8_askNow_96 ?_
                    refine R_istore hB (L' := [_, _, _, _, _, _, _, _]) dX8_askNow_97 (Nat.le_of_ble_eq_true rfl) rfl ?_
                    refine R_iconst hB dX8_askNow_99 ?_
                    refine R_istore hB (L' := [_, _, _, _, _, _, _, _, _]) dX8_askNow_100 (Nat.le_of_ble_eq_true rfl) rfl ?_
                    have lp_102 : ∀ (n_102 : Nat) (n e : Int), ((σ 2 4 - e).toNat) < n_102 → (0 ≤ e ∧ e ≤ σ 2 4) → (n = cnt (fun d => nvB σ i.toNat && nvB σ d && decide (mkW σ k.toNat i.toNat = mkW σ k.toNat d)) e.toNat) → Run Θ Γ 102 [(0, .ref (Th.r Θ 1)), (1, .int (I z1)), (2, .int (I be)), (3, .int (I le)), (4, .int (I k)), (5, .int (I mo)), (6, .int (I i)), (7, .int (I n)), (8, .int (I e))] [] σ2 := by
                      intro n_102
                      induction n_102 with
                      | zero => intro n e h_m; exact absurd h_m (Nat.not_lt_zero _)
                      | succ n_102 ih_102 =>
                        intro n e h_m he hn
                        have hnbb := cnt_in (fun d => nvB σ i.toNat && nvB σ d && decide (mkW σ k.toNat i.toNat = mkW σ k.toNat d)) e.toNat
                        rw [← hn] at hnbb
                        refine R_iload hB (j := 8) dX8_askNow_102 rfl ?_
                        refine R_aload_n hB (j := 0) dX8_askNow_104 rfl rfl ?_
                        refine R_geti hB fl_X8_117 dX8_askNow_105 rfl ?_
                        refine R_icmp_ge hB 174 (by omega) (by rw [p7]; omega) dX8_askNow_108 rfl (fun h108 => ?_) (fun h108 => ?_)
                        · rw [p7] at h108
                          have hnN : n = cnt (fun d => nvB σ i.toNat && nvB σ d && decide (mkW σ k.toNat i.toNat = mkW σ k.toNat d)) (σ 2 4).toNat := by rw [hn, show e = σ 2 4 by omega]
                          have hnb := cnt_in (fun d => nvB σ i.toNat && nvB σ d && decide (mkW σ k.toNat i.toNat = mkW σ k.toNat d)) (σ 2 4).toNat
                          rw [← hnN] at hnb
                          refine R_iload hB (j := 7) dX8_askNow_174 rfl ?_
                          refine R_iload hB (j := 5) dX8_askNow_176 rfl ?_
                          have jn_188 : ∀ (y : Int), (y = mMo (nvB σ) (mkW σ k.toNat) (σ 2 4).toNat (i + 1).toNat) → Run Θ Γ 188 [(0, .ref (Th.r Θ 1)), (1, .int (I z1)), (2, .int (I be)), (3, .int (I le)), (4, .int (I k)), (5, .int (I mo)), (6, .int (I i)), (7, .int (I n)), (8, .int (I e))] [.int (I y)] σ2 := by
                            intro y hy
                            refine R_istore hB (L' := [_, _, _, _, _, _, _, _, _]) dX8_askNow_188 (Nat.le_of_ble_eq_true rfl) rfl ?_
                            refine R_iinc hB (j := 6) (L' := [_, _, _, _, _, _, _, _, _]) dX8_askNow_190 rfl (Nat.le_of_ble_eq_true rfl) rfl ?_
                            refine R_goto hB 87 dX8_askNow_193 rfl ?_
                            exact R_sub [2, 3, 4, 5, 6, 1, 0] rfl (ih_87 _ _ (by omega) (by omega) hy)
                          refine R_icmp_le hB 186 (by omega) (by omega) dX8_askNow_178 rfl (fun h178 => ?_) (fun h178 => ?_)
                          · refine R_iload hB (j := 5) dX8_askNow_186 rfl ?_
                            exact R_sub [0, 1, 2, 3, 4, 5, 6, 7, 8] rfl (jn_188 _ (by
                              rw [show (i + 1).toNat = i.toNat + 1 by omega]
                              simp only [mMo]
                              rw [← hmo, ← hnN]; omega))
                          · refine R_iload hB (j := 7) dX8_askNow_181 rfl ?_
                            refine R_goto hB 188 dX8_askNow_183 rfl ?_
                            exact R_sub [0, 1, 2, 3, 4, 5, 6, 7, 8] rfl (jn_188 _ (by
                              rw [show (i + 1).toNat = i.toNat + 1 by omega]
                              simp only [mMo]
                              rw [← hmo, ← hnN]; omega))
                        · rw [p7] at h108
                          refine R_iload hB (j := 7) dX8_askNow_111 rfl ?_
                          refine R_iload_n hB (j := 1) dX8_askNow_113 rfl rfl ?_
                          refine R_iload hB (j := 6) dX8_askNow_114 rfl ?_
                          refine P_cS1 hB (s_isIn _ _ (by omega) (by omega)) ms_X8_157 (by decide) dX8_askNow_116 rfl rfl (Nat.le_of_ble_eq_true rfl) (fun z116 h116 => ?_)
                          have b116 : z116 = if nvB σ i.toNat = true then 1 else 0 := by
                            rw [h116, c2, bsum_bit _ (show i.toNat < (σ 2 4).toNat by omega)]
                            cases nvB σ i.toNat <;> rfl
                          have jn_165 : ∀ (x : Int), (x = if (fun d => nvB σ i.toNat && nvB σ d && decide (mkW σ k.toNat i.toNat = mkW σ k.toNat d)) e.toNat = true then 1 else 0) → Run Θ Γ 165 [(0, .ref (Th.r Θ 1)), (1, .int (I z1)), (2, .int (I be)), (3, .int (I le)), (4, .int (I k)), (5, .int (I mo)), (6, .int (I i)), (7, .int (I n)), (8, .int (I e))] [.int (I x), .int (I n)] σ2 := by
                            intro x hx
                            refine R_iadd hB dX8_askNow_165 ?_
                            refine R_istore hB (L' := [_, _, _, _, _, _, _, _, _]) dX8_askNow_166 (Nat.le_of_ble_eq_true rfl) rfl ?_
                            refine R_iinc hB (j := 8) (L' := [_, _, _, _, _, _, _, _, _]) dX8_askNow_168 rfl (Nat.le_of_ble_eq_true rfl) rfl ?_
                            refine R_goto hB 102 dX8_askNow_171 rfl ?_
                            exact R_sub [2, 3, 4, 5, 6, 7, 8, 1, 0] rfl (ih_102 _ _ (by omega) (by omega) (by rw [cnt_kn _ he.1, ← hn, hx]))
                          refine R_if_eq hB 164 (by rw [b116]; split <;> omega) dX8_askNow_119 rfl (fun h119 => ?_) (fun h119 => ?_)
                          · refine R_iconst hB dX8_askNow_164 ?_
                            exact R_sub [0, 1, 2, 3, 4, 5, 6, 7, 8] rfl (jn_165 _ (by
                              show (0 : Int) = if (nvB σ i.toNat && nvB σ e.toNat && decide (mkW σ k.toNat i.toNat = mkW σ k.toNat e.toNat)) = true then 1 else 0
                              by_cases c1 : nvB σ i.toNat = true
                              · by_cases c3 : nvB σ e.toNat = true
                                · by_cases c4 : mkW σ k.toNat i.toNat = mkW σ k.toNat e.toNat
                                  · exfalso
                                    first
                                    | (rw [if_pos c1] at b116; omega)
                                    | (rw [if_pos c3] at b125; omega)
                                    | exact h157 c4
                                  · rw [decide_eq_false c4, Bool.and_false]; rfl
                                · simp [c3]
                              · simp [c1]))
                          · refine R_iload_n hB (j := 1) dX8_askNow_122 rfl rfl ?_
                            refine R_iload hB (j := 8) dX8_askNow_123 rfl ?_
                            refine P_cS1 hB (s_isIn _ _ (by omega) (by omega)) ms_X8_157 (by decide) dX8_askNow_125 rfl rfl (Nat.le_of_ble_eq_true rfl) (fun z125 h125 => ?_)
                            have b125 : z125 = if nvB σ e.toNat = true then 1 else 0 := by
                              rw [h125, c2, bsum_bit _ (show e.toNat < (σ 2 4).toNat by omega)]
                              cases nvB σ e.toNat <;> rfl
                            refine R_if_eq hB 164 (by rw [b125]; split <;> omega) dX8_askNow_128 rfl (fun h128 => ?_) (fun h128 => ?_)
                            · refine R_iconst hB dX8_askNow_164 ?_
                              exact R_sub [0, 1, 2, 3, 4, 5, 6, 7, 8] rfl (jn_165 _ (by
                                show (0 : Int) = if (nvB σ i.toNat && nvB σ e.toNat && decide (mkW σ k.toNat i.toNat = mkW σ k.toNat e.toNat)) = true then 1 else 0
                                by_cases c1 : nvB σ i.toNat = true
                                · by_cases c3 : nvB σ e.toNat = true
                                  · by_cases c4 : mkW σ k.toNat i.toNat = mkW σ k.toNat e.toNat
                                    · exfalso
                                      first
                                      | (rw [if_pos c1] at b116; omega)
                                      | (rw [if_pos c3] at b125; omega)
                                      | exact h157 c4
                                    · rw [decide_eq_false c4, Bool.and_false]; rfl
                                  · simp [c3]
                                · simp [c1]))
                            · have A1 := hA i.toNat k.toNat (by omega) (by omega)
                              have A2 := hA e.toNat k.toNat (by omega) (by omega)
                              rw [show ((i.toNat : Nat) : Int) = i by omega, show ((k.toNat : Nat) : Int) = k by omega] at A1
                              rw [show ((e.toNat : Nat) : Int) = e by omega, show ((k.toNat : Nat) : Int) = k by omega] at A2
                              have g1 := mkb k.toNat i.toNat
                              have g2 := mkb k.toNat e.toNat
                              refine R_aload_n hB (j := 0) dX8_askNow_131 rfl rfl ?_
                              refine R_getr hB (71) fl_X8_65 dX8_askNow_132 rfl rfl ?_
                              refine R_bipush hB dX8_askNow_135 rfl ?_
                              refine R_iload hB (j := 6) dX8_askNow_137 rfl ?_
                              refine R_imul hB dX8_askNow_139 ?_
                              refine R_iload hB (j := 4) dX8_askNow_140 rfl ?_
                              refine R_iadd hB dX8_askNow_142 ?_
                              refine R_iald hB rfl (by omega) dX8_askNow_143 ?_
                              refine R_aload_n hB (j := 0) dX8_askNow_144 rfl rfl ?_
                              refine R_getr hB (71) fl_X8_65 dX8_askNow_145 rfl rfl ?_
                              refine R_bipush hB dX8_askNow_148 rfl ?_
                              refine R_iload hB (j := 8) dX8_askNow_150 rfl ?_
                              refine R_imul hB dX8_askNow_152 ?_
                              refine R_iload hB (j := 4) dX8_askNow_153 rfl ?_
                              refine R_iadd hB dX8_askNow_155 ?_
                              refine R_iald hB rfl (by omega) dX8_askNow_156 ?_
                              refine R_icmp_ne hB 164 (by rw [A1]; omega) (by rw [A2]; omega) dX8_askNow_157 rfl (fun h157 => ?_) (fun h157 => ?_)
                              · rw [A1, A2] at h157
                                refine R_iconst hB dX8_askNow_164 ?_
                                exact R_sub [0, 1, 2, 3, 4, 5, 6, 7, 8] rfl (jn_165 _ (by
                                  show (0 : Int) = if (nvB σ i.toNat && nvB σ e.toNat && decide (mkW σ k.toNat i.toNat = mkW σ k.toNat e.toNat)) = true then 1 else 0
                                  by_cases c1 : nvB σ i.toNat = true
                                  · by_cases c3 : nvB σ e.toNat = true
                                    · by_cases c4 : mkW σ k.toNat i.toNat = mkW σ k.toNat e.toNat
                                      · exfalso
                                        first
                                        | (rw [if_pos c1] at b116; omega)
                                        | (rw [if_pos c3] at b125; omega)
                                        | exact h157 c4
                                      · rw [decide_eq_false c4, Bool.and_false]; rfl
                                    · simp [c3]
                                  · simp [c1]))
                              · rw [A1, A2] at h157
                                refine R_iconst hB dX8_askNow_160 ?_
                                refine R_goto hB 165 dX8_askNow_161 rfl ?_
                                exact R_sub [0, 1, 2, 3, 4, 5, 6, 7, 8] rfl (jn_165 _ (by
                                  have c1 : nvB σ i.toNat = true := by
                                    cases c : nvB σ i.toNat with
                                    | true => rfl
                                    | false => rw [c] at b116; simp at b116; omega
                                  have c3 : nvB σ e.toNat = true := by
                                    cases c : nvB σ e.toNat with
                                    | true => rfl
                                    | false => rw [c] at b125; simp at b125; omega
                                  show (1 : Int) = if (nvB σ i.toNat && nvB σ e.toNat && decide (mkW σ k.toNat i.toNat = mkW σ k.toNat e.toNat)) = true then 1 else 0
                                  rw [c1, c3, decide_eq_true h157]; rfl))
                    exact R_sub [2, 3, 4, 5, 6, 7, 8, 1, 0] rfl (lp_102 _ _ _ (Nat.lt_succ_self _) (by omega) rfl)
              exact R_sub [2, 3, 4, 5, 6, 1, 0] rfl (lp_87 _ _ _ (Nat.lt_succ_self _) (by omega) rfl)
        exact R_sub [3, 4, 2, 1, 0] rfl (lp_72 _ _ _ _ (Nat.lt_succ_self _) (by omega) rfl (by omega) (fun q => by omega) (by omega))
      · rw [p7] at h12
        have p2d := p2_8 d.toNat (by omega)
        have p2e := p2_pos d.toNat
        refine R_aload_n hB (j := 0) dX8_askNow_15 rfl rfl ?_
        refine R_iconst hB dX8_askNow_16 ?_
        refine R_iload_n hB (j := 2) dX8_askNow_17 rfl rfl ?_
        refine R_ishl hB (2 ^ d.toNat) (i_shl1z (by omega)) dX8_askNow_18 ?_
        refine N_puti hB fp_X8_154 dX8_askNow_19 rfl (by omega) (fun σ3 e3 => ?_)
        have R3 : RR σ3 := by rw [e3]; exact R2.fld (by decide)
        have F3 : FrM σ σ3 := F2.tr (by rw [e3]; exact FrM.fld (by decide))
        have m14 : σ3 1 14 = 2 ^ d.toNat := by rw [e3, up_s]
        have m15 : σ3 1 15 = 0 := by rw [e3, up_n (by decide)]; exact M2
        refine R_aload_n hB (j := 0) dX8_askNow_22 rfl rfl ?_
        refine R_cV0 hB (s_runs (R3.npre (by rw [m14]; omega) (by rw [m15]; omega))) mv_X8_174 rfl rfl (by decide) dX8_askNow_23 rfl rfl (Nat.le_of_ble_eq_true rfl) (fun σ4 h23 => ?_)
        have R4 := R3.ns h23.1
        have F4 := F3.tr (FrM.ns h23.1)
        have A4 : ∀ e j : Nat, (e : Int) < d → (j : Int) < σ 0 2 → σ4 71 (8 * (e : Int) + j) = mkW σ j e := fun e j q1 q2 => by rw [h23.1 71 (by decide), e3, up_i (by decide)]; exact hA e j q1 q2
        refine R_iconst hB dX8_askNow_26 ?_
        refine R_istore_n hB (L' := [_, _, _, _]) dX8_askNow_27 rfl (Nat.le_of_ble_eq_true rfl) rfl ?_
        have lp_28 : ∀ (n_28 : Nat) (k : Int) (σ5 : Mem), ((σ 0 2 - k).toNat) < n_28 → (0 ≤ k ∧ k ≤ σ 0 2) → (Same [71] σ4 σ5) → (∀ e j : Nat, (e : Int) < d → (j : Int) < σ 0 2 → σ5 71 (8 * (e : Int) + j) = mkW σ j e) → (∀ j : Nat, (j : Int) < k → σ5 71 (8 * d + j) = mkW σ j d.toNat) → Run Θ Γ 28 [(0, .ref (Th.r Θ 1)), (1, .int (I z1)), (2, .int (I d)), (3, .int (I k))] [] σ5 := by
          intro n_28
          induction n_28 with
          | zero => intro k σ5 h_m; exact absurd h_m (Nat.not_lt_zero _)
          | succ n_28 ih_28 =>
            intro k σ5 h_m hk S5 hA5 hB5
            have p5 : σ5 1 2 = σ 0 2 := by rw [S5 1 (by decide), R4.2.2.1, F4.1 0 (by decide)]
            have F5 : FrM σ4 σ5 := ⟨S5.wide (fun i q => by simp only [List.mem_cons, List.not_mem_nil, or_false] at *; omega), fun x _ _ _ _ => by rw [S5 1 (by decide)]⟩
            refine R_iload_n hB (j := 3) dX8_askNow_28 rfl rfl ?_
            refine R_aload_n hB (j := 0) dX8_askNow_29 rfl rfl ?_
            refine R_geti hB fl_X8_114 dX8_askNow_30 rfl ?_
            refine R_icmp_ge hB 59 (by omega) (by rw [p5]; omega) dX8_askNow_33 rfl (fun h33 => ?_) (fun h33 => ?_)
            · rw [p5] at h33
              refine R_iinc hB (j := 2) (L' := [_, _, _, _]) dX8_askNow_59 rfl (Nat.le_of_ble_eq_true rfl) rfl ?_
              refine R_goto hB 7 dX8_askNow_62 rfl ?_
              exact R_sub [1, 2, 0] rfl (ih_7 _ _ (by omega) (by omega) (F4.tr F5) (R4.oth (fun i hi => S5 i (fun q => hi (by simp only [List.mem_cons, List.not_mem_nil, or_false] at *; omega)))) (by rw [S5 1 (by decide), h23.1 1 (by decide)]; exact m15) (fun e j q1 q2 => by
                by_cases c : (e : Int) = d
                · have := hB5 j (by omega)
                  rw [show e = d.toNat by omega, show ((d.toNat : Nat) : Int) = d by omega]; exact this
                · exact hA5 e j (by omega) q2))
            · rw [p5] at h33
              refine R_aload_n hB (j := 0) dX8_askNow_36 rfl rfl ?_
              refine R_getr hB (71) fl_X8_65 dX8_askNow_37 rfl rfl ?_
              refine R_bipush hB dX8_askNow_40 rfl ?_
              refine R_iload_n hB (j := 2) dX8_askNow_42 rfl rfl ?_
              refine R_imul hB dX8_askNow_43 ?_
              refine R_iload_n hB (j := 3) dX8_askNow_44 rfl rfl ?_
              refine R_iadd hB dX8_askNow_45 ?_
              refine R_aload_n hB (j := 0) dX8_askNow_46 rfl rfl ?_
              refine R_iload_n hB (j := 3) dX8_askNow_47 rfl rfl ?_
              refine R_iconst hB dX8_askNow_48 ?_
              refine P_cV1 hB (s_marksOf _ _ (by omega) (by omega) (by rw [S5 1 (by decide), R4.2.2.2.1, F4.1 2 (by decide)]; exact hds)) mv_X8_247 rfl rfl (by decide) dX8_askNow_49 rfl rfl (Nat.le_of_ble_eq_true rfl) (fun z49 h49 => ?_)
              have hmk : z49 = mkW σ k.toNat d.toNat := by
                have w := ask_w (d := d.toNat) (k := k.toNat) R3 m14 (by rw [F3.1 2 (by decide)]; omega) (by rw [F3.1 0 (by decide)]; omega) h23
                rw [mm_mkW F3.1 (by omega), show ((k.toNat : Nat) : Int) = k by omega] at w
                rw [h49, ← w]
                unfold mkN
                rw [S5 64 (by decide), S5 61 (by decide), S5 1 (by decide)]
              have hmb := mkb k.toNat d.toNat
              rw [← hmk] at hmb
              refine N_iast hB rfl (by omega) (by omega) dX8_askNow_52 (fun σ6 e6 => ?_)
              have S6 : Same [71] σ4 σ6 := S5.tr (T := [71]) (S' := [71]) (by rw [e6]; exact Same.up (by decide)) (fun _ q => q) (fun _ q => q)
              refine R_iinc hB (j := 3) (L' := [_, _, _, _]) dX8_askNow_53 rfl (Nat.le_of_ble_eq_true rfl) rfl ?_
              refine R_goto hB 28 dX8_askNow_56 rfl ?_
              exact R_sub [1, 2, 3, 0] rfl (ih_28 _ _ (by omega) (by omega) S6 (fun e j q1 q2 => by rw [e6, up_n (by omega)]; exact hA5 e j q1 q2) (fun j q => by
                by_cases c : (j : Int) = k
                · rw [c, e6, up_s, hmk]; congr 1; omega
                · rw [e6, up_n (by omega)]; exact hB5 j (by omega)))
        exact R_sub [1, 2, 3, 0] rfl (lp_28 _ _ _ (Nat.lt_succ_self _) (by omega) Same.rf A4 (fun j q => by omega))
  exact R_sub [2, 1, 0] rfl (lp_7 _ _ _ (Nat.lt_succ_self _) (by omega) f1 f2 f4 (fun e j q1 q2 => by omega))

theorem s_mask {Θ : Th} {σ : Mem} (h : InvC σ) (hR : Rel σ) (hTa : TaR σ) : Spc Θ M_X8_ask 1 [.ref (Th.r Θ 1)] σ (fun r σ' => FrM σ σ' ∧ RR σ' ∧ r = amx (aMost σ) (σ 0 2).toNat) := by
  refine Spc_of (by decide +kernel) (Nat.le_of_ble_eq_true rfl) (fun Γ hB hE => ?_)
  show Run Θ Γ 0 [(0, .ref (Th.r Θ 1))] [] σ
  refine R_aload_n hB (j := 0) dX8_ask_0 rfl rfl ?_
  refine R_cV1 hB (s_askNow h hR hTa) mv_X8_260 rfl rfl (by decide) dX8_ask_1 rfl rfl (Nat.le_of_ble_eq_true rfl) (fun z1 σ1 h1 => ?_)
  exact R_iret hB hE rfl dX8_ask_4 (h1)
