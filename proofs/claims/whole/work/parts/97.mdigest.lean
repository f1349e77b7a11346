theorem mm_cCt2 {σ σ' : Mem} (hF : FrM σ σ') (h8 : σ 0 2 ≤ 8) (w : Int) : cCt σ' w = cCt σ w := mm_cCt hF.1 h8 w

theorem mm_dSl {σ σ' : Mem} (hS : Same MSC σ σ') (h8 : σ 0 2 ≤ 8) {s : Nat} (hs : s < 8) (h0 : Int) : dSl σ' s h0 = dSl σ s h0 := by
  unfold dSl
  rw [hS (8 + s) (by simp; omega), mm_dpH hS hs, mm_dpH hS hs, mm_dpH hS hs, mm_cWk hS hs, mm_many hS hs, mm_mvP hS h8 hs, mm_fdP hS hs]
theorem mm_dDd {σ σ' : Mem} (hS : Same MSC σ σ') (h8 : σ 0 2 ≤ 8) (d h0 : Int) : dDd σ' d h0 = dDd σ d h0 := by
  have f1 : (fun w : Nat => w32 (cPf σ' d (w : Int))) = fun w : Nat => w32 (cPf σ d (w : Int)) := funext (fun w => by rw [mm_cPf hS h8])
  have f2 : (fun w : Nat => w32 (cDe σ' d (w : Int))) = fun w : Nat => w32 (cDe σ d (w : Int)) := funext (fun w => by rw [mm_cDe hS])
  unfold dDd
  rw [f1, f2, mm_plB hS h8, mm_cNd hS h8, mm_cNd hS h8, mm_fgM hS h8, mm_fgT hS h8, hS 0 (by decide)]
  exact itN_cg (fun s q h => by
    have f3 : (fun w : Nat => w32 (cHe σ' d s (w : Int))) = fun w : Nat => w32 (cHe σ d s (w : Int)) := funext (fun w => by rw [mm_cHe hS (by omega)])
    rw [f3]) _
theorem cQg_4 (σ : Mem) (q i : Int) : cQg σ 4 q i = cQu σ q i := rfl

theorem s_mdigest {Θ : Th} {σ : Mem} (h : InvC σ) (hB0 : Bond σ) : Spc Θ M_X8_digest 2 [.ref (Th.r Θ 1)] σ (fun r σ' => FrM σ σ' ∧ r = dig σ) := by
  refine Spc_of (by decide +kernel) (Nat.le_of_ble_eq_true rfl) (fun Γ hB hE => ?_)
  show Run Θ Γ 0 [(0, .ref (Th.r Θ 1))] [] σ
  have hns := h.ns
  have hn := h.row.1
  refine R_ldc2 hB dX8_digest_0 kl_X8_301 ?_
  refine R_lstore_n hB (L' := [_, _]) dX8_digest_3 rfl (Nat.le_of_ble_eq_true rfl) rfl ?_
  refine R_iconst hB dX8_digest_4 ?_
  refine R_istore_n hB (L' := [_, _, _]) dX8_digest_5 rfl (Nat.le_of_ble_eq_true rfl) rfl ?_
  have lp_6 : ∀ (n_6 : Nat) (ha wv : Int) (σ2 : Mem), ((8 - wv).toNat) < n_6 → (0 ≤ wv ∧ wv ≤ 8) → (FrM σ σ2) → (ha = dgN (fun w => w32 (cCt σ (w : Int))) wv.toNat 17) → Run Θ Γ 6 [(0, .ref (Th.r Θ 1)), (1, .long (Jl ha)), (3, .int (I wv))] [] σ2 := by
    intro n_6
    induction n_6 with
    | zero => intro ha wv σ2 h_m; exact absurd h_m (Nat.not_lt_zero _)
    | succ n_6 ih_6 =>
      intro ha wv σ2 h_m hw8 F hh1
      refine R_iload_n hB (j := 2) dX8_digest_6 rfl rfl ?_
      refine R_bipush hB dX8_digest_7 rfl ?_
      refine R_icmp_ge hB 31 (by omega) (by omega) dX8_digest_9 rfl (fun h9 => ?_) (fun h9 => ?_)
      · have hw8 : wv = 8 := by omega
        subst hw8
        have hI := h.mm F.1
        have hRl := hB0.1.mm F
        refine R_ldc2 hB dX8_digest_31 kl_X8_299 ?_
        refine R_lload_n hB (j := 1) dX8_digest_34 rfl rfl ?_
        refine R_lmul hB dX8_digest_35 ?_
        refine R_aload_n hB (j := 0) dX8_digest_36 rfl rfl ?_
        refine R_iconst hB dX8_digest_37 ?_
        refine R_cV1 hB (s_faultOf 0 (by omega) hI hRl) mv_X8_130 rfl rfl (by decide) dX8_digest_38 rfl rfl (Nat.le_of_ble_eq_true rfl) (fun z38 τ38 h38 => ?_)
        obtain ⟨c2, c1, c3⟩ := h38
        have e38 : z38 = fzV 0 (σ 29) (σ 16 3) := by
          have q := fzV_eq c2
          rw [q]
          show fzV 0 (σ2 29) (σ2 16 3) = _
          rw [F.1 29 (by decide), F.1 16 (by decide)]
        have F := F.tr c1
        have hI := h.mm F.1
        have hRl := c3.2.1
        refine R_i2lw hB dX8_digest_41 ?_
        refine R_ladd hB dX8_digest_42 ?_
        refine R_lstore_n hB (L' := [_, _, _]) dX8_digest_43 rfl (Nat.le_of_ble_eq_true rfl) rfl ?_
        refine R_ldc2 hB dX8_digest_44 kl_X8_299 ?_
        refine R_lload_n hB (j := 0) dX8_digest_47 rfl rfl ?_
        refine R_lmul hB dX8_digest_48 ?_
        refine R_aload_n hB (j := 1) dX8_digest_49 rfl rfl ?_
        refine R_iconst hB dX8_digest_50 ?_
        refine R_cV1 hB (s_faultOf 1 (by omega) hI hRl) mv_X8_130 rfl rfl (by decide) dX8_digest_51 rfl rfl (Nat.le_of_ble_eq_true rfl) (fun z51 τ51 h51 => ?_)
        obtain ⟨c2, c1, c3⟩ := h51
        have e51 : z51 = fzV 1 (σ 30) (σ 17 3) := by
          have q := fzV_eq c2
          rw [q]
          show fzV 1 (τ38 30) (τ38 17 3) = _
          rw [F.1 30 (by decide), F.1 17 (by decide)]
        have F := F.tr c1
        have hI := h.mm F.1
        have hRl := c3.2.1
        refine R_i2lw hB dX8_digest_54 ?_
        refine R_ladd hB dX8_digest_55 ?_
        refine R_lstore_n hB (L' := [_, _, _]) dX8_digest_56 rfl (Nat.le_of_ble_eq_true rfl) rfl ?_
        refine R_iconst hB dX8_digest_57 ?_
        refine R_istore_n hB (L' := [_, _, _]) dX8_digest_58 rfl (Nat.le_of_ble_eq_true rfl) rfl ?_
        have lp_59 : ∀ (n_59 : Nat) (hb s : Int) (σ4 : Mem), ((σ 0 2 - s).toNat) < n_59 → (0 ≤ s ∧ s ≤ σ 0 2) → (FrM σ σ4) → (RR σ4) → (hb = itN (fun s h => dSl σ s h) s.toNat (31 * (31 * ha + w32 z38) + w32 z51)) → Run Θ Γ 59 [(0, .ref (Th.r Θ 1)), (1, .long (Jl hb)), (3, .int (I s))] [] σ4 := by
          intro n_59
          induction n_59 with
          | zero => intro hb s σ4 h_m; exact absurd h_m (Nat.not_lt_zero _)
          | succ n_59 ih_59 =>
            intro hb s σ4 h_m hs F R4 hh3
            have p4 : σ4 1 2 = σ 0 2 := by rw [R4.2.2.1, F.1 0 (by decide)]
            refine R_iload_n hB (j := 2) dX8_digest_59 rfl rfl ?_
            refine R_aload_n hB (j := 0) dX8_digest_60 rfl rfl ?_
            refine R_geti hB fl_X8_114 dX8_digest_61 rfl ?_
            refine R_icmp_ge hB 80 (by omega) (by rw [p4]; omega) dX8_digest_64 rfl (fun h64 => ?_) (fun h64 => ?_)
            · rw [p4] at h64
              have hsn : s = σ 0 2 := by omega
              subst hsn
              refine R_iconst hB dX8_digest_80 ?_
              refine R_istore_n hB (L' := [_, _, _]) dX8_digest_81 rfl (Nat.le_of_ble_eq_true rfl) rfl ?_
              have lp_82 : ∀ (n_82 : Nat) (hc d : Int) (σ6 : Mem), ((σ 2 4 - d).toNat) < n_82 → (0 ≤ d ∧ d ≤ σ 2 4) → (FrM σ σ6) → (RR σ6) → (hc = itN (fun d h => dDd σ (d : Int) h) d.toNat hb) → Run Θ Γ 82 [(0, .ref (Th.r Θ 1)), (1, .long (Jl hc)), (3, .int (I d))] [] σ6 := by
                intro n_82
                induction n_82 with
                | zero => intro hc d σ6 h_m; exact absurd h_m (Nat.not_lt_zero _)
                | succ n_82 ih_82 =>
                  intro hc d σ6 h_m hd F R6 hh4
                  have p6 : σ6 1 7 = σ 2 4 := by rw [R6.2.2.2.1, F.1 2 (by decide)]
                  refine R_iload_n hB (j := 2) dX8_digest_82 rfl rfl ?_
                  refine R_aload_n hB (j := 0) dX8_digest_83 rfl rfl ?_
                  refine R_geti hB fl_X8_117 dX8_digest_84 rfl ?_
                  refine R_icmp_ge hB 103 (by omega) (by rw [p6]; omega) dX8_digest_87 rfl (fun h87 => ?_) (fun h87 => ?_)
                  · rw [p6] at h87
                    have hdn : d = σ 2 4 := by omega
                    subst hdn
                    refine R_iconst hB dX8_digest_103 ?_
                    refine R_istore_n hB (L' := [_, _, _]) dX8_digest_104 rfl (Nat.le_of_ble_eq_true rfl) rfl ?_
                    have lp_105 : ∀ (n_105 : Nat) (hd2 q : Int) (σ8 : Mem), ((4 - q).toNat) < n_105 → (0 ≤ q ∧ q ≤ 4) → (FrM σ σ8) → (RR σ8) → (hd2 = itN (fun q h => 31 * (31 * h + w32 (cQu σ (q : Int) (-1))) + w32 (cQu σ (q : Int) 0)) q.toNat hc) → Run Θ Γ 105 [(0, .ref (Th.r Θ 1)), (1, .long (Jl hd2)), (3, .int (I q))] [] σ8 := by
                      intro n_105
                      induction n_105 with
                      | zero => intro hd2 q σ8 h_m; exact absurd h_m (Nat.not_lt_zero _)
                      | succ n_105 ih_105 =>
                        intro hd2 q σ8 h_m hq F R8 hh5
                        refine R_iload_n hB (j := 2) dX8_digest_105 rfl rfl ?_
                        refine R_iconst hB dX8_digest_106 ?_
                        refine R_icmp_ge hB 146 (by omega) (by omega) dX8_digest_107 rfl (fun h107 => ?_) (fun h107 => ?_)
                        · have hq4 : q = 4 := by omega
                          subst hq4
                          have hI := h.mm F.1
                          have hRl := R8.2.1
                          refine R_ldc2 hB dX8_digest_146 kl_X8_299 ?_
                          refine R_lload_n hB (j := 1) dX8_digest_149 rfl rfl ?_
                          refine R_lmul hB dX8_digest_150 ?_
                          refine R_aload_n hB (j := 0) dX8_digest_151 rfl rfl ?_
                          refine R_cV1 hB (s_bestNow hI hRl) mv_X8_204 rfl rfl (by decide) dX8_digest_152 rfl rfl (Nat.le_of_ble_eq_true rfl) (fun z152 τ152 h152 => ?_)
                          obtain ⟨c1, c3, c2⟩ := h152
                          have e152 : z152 = amx (cMany σ) (σ 0 2).toNat := by
                            refine c2.trans ?_
                            exact mm_best F.1 hns.2
                          have F := F.tr c1
                          have hI := h.mm F.1
                          have hRl := c3.2.1
                          have R9 := c3
                          refine R_i2lw hB dX8_digest_155 ?_
                          refine R_ladd hB dX8_digest_156 ?_
                          refine R_lstore_n hB (L' := [_, _, _]) dX8_digest_157 rfl (Nat.le_of_ble_eq_true rfl) rfl ?_
                          refine R_ldc2 hB dX8_digest_158 kl_X8_299 ?_
                          refine R_lload_n hB (j := 0) dX8_digest_161 rfl rfl ?_
                          refine R_lmul hB dX8_digest_162 ?_
                          refine R_aload_n hB (j := 1) dX8_digest_163 rfl rfl ?_
                          refine R_cV1 hB (s_byAllNow hI hRl) mv_X8_208 rfl rfl (by decide) dX8_digest_164 rfl rfl (Nat.le_of_ble_eq_true rfl) (fun z164 τ164 h164 => ?_)
                          obtain ⟨c1, c3, c2⟩ := h164
                          have e164 : z164 = cBA σ := by
                            refine c2.trans ?_
                            exact mm_cBA F.1 hns.2
                          have F := F.tr c1
                          have hI := h.mm F.1
                          have hRl := c3.2.1
                          have R9 := c3
                          refine R_i2lw hB dX8_digest_167 ?_
                          refine R_ladd hB dX8_digest_168 ?_
                          refine R_lstore_n hB (L' := [_, _, _]) dX8_digest_169 rfl (Nat.le_of_ble_eq_true rfl) rfl ?_
                          refine R_ldc2 hB dX8_digest_170 kl_X8_299 ?_
                          refine R_lload_n hB (j := 0) dX8_digest_173 rfl rfl ?_
                          refine R_lmul hB dX8_digest_174 ?_
                          refine R_aload_n hB (j := 1) dX8_digest_175 rfl rfl ?_
                          refine R_cV1 hB (s_neverNow hI hRl (hB0.2.1.mm F)) mv_X8_254 rfl rfl (by decide) dX8_digest_176 rfl rfl (Nat.le_of_ble_eq_true rfl) (fun z176 τ176 h176 => ?_)
                          obtain ⟨c1, c3, c2, -⟩ := h176
                          have e176 : z176 = bsum (nvB σ) (σ 2 4).toNat := by rw [c2, mm_nvB F.1 hns.2, F.1 2 (by decide)]
                          have F := F.tr c1
                          have hI := h.mm F.1
                          have hRl := c3.2.1
                          refine R_i2lw hB dX8_digest_179 ?_
                          refine R_ladd hB dX8_digest_180 ?_
                          refine R_lstore_n hB (L' := [_, _, _]) dX8_digest_181 rfl (Nat.le_of_ble_eq_true rfl) rfl ?_
                          refine R_ldc2 hB dX8_digest_182 kl_X8_299 ?_
                          refine R_lload_n hB (j := 0) dX8_digest_185 rfl rfl ?_
                          refine R_lmul hB dX8_digest_186 ?_
                          refine R_aload_n hB (j := 1) dX8_digest_187 rfl rfl ?_
                          refine R_cV1 hB (s_askNow hI hRl (hB0.2.1.mm F)) mv_X8_260 rfl rfl (by decide) dX8_digest_188 rfl rfl (Nat.le_of_ble_eq_true rfl) (fun z188 τ188 h188 => ?_)
                          obtain ⟨c1, c3, c2⟩ := h188
                          have e188 : z188 = amx (aMost σ) (σ 0 2).toNat := by
                            refine c2.trans ?_
                            exact mm_ask F.1 hns.2 hn.2
                          have F := F.tr c1
                          have hI := h.mm F.1
                          have hRl := c3.2.1
                          have R9 := c3
                          refine R_i2lw hB dX8_digest_191 ?_
                          refine R_ladd hB dX8_digest_192 ?_
                          refine R_lstore_n hB (L' := [_, _, _]) dX8_digest_193 rfl (Nat.le_of_ble_eq_true rfl) rfl ?_
                          refine R_ldc2 hB dX8_digest_194 kl_X8_299 ?_
                          refine R_lload_n hB (j := 0) dX8_digest_197 rfl rfl ?_
                          refine R_lmul hB dX8_digest_198 ?_
                          refine R_aload_n hB (j := 1) dX8_digest_199 rfl rfl ?_
                          refine R_bipush hB dX8_digest_200 rfl ?_
                          refine R_bipush hB dX8_digest_202 rfl ?_
                          refine R_iconst hB dX8_digest_204 ?_
                          refine R_cV1 hB (s_courtOf 7 8 0 (by omega) (by omega) hI hRl) mv_X8_279 rfl rfl (by decide) dX8_digest_205 rfl rfl (Nat.le_of_ble_eq_true rfl) (fun z205 τ205 h205 => ?_)
                          obtain ⟨c1, c2⟩ := h205
                          have e205 : z205 = crtP σ 7 8 := by rw [c2, if_pos rfl]; exact mm_crtP F.1 hns.2 7 8
                          have F := F.tr c1
                          have hI := h.mm F.1
                          have hRl := hB0.1.mm F
                          refine R_i2lw hB dX8_digest_208 ?_
                          refine R_ladd hB dX8_digest_209 ?_
                          refine R_lstore_n hB (L' := [_, _, _]) dX8_digest_210 rfl (Nat.le_of_ble_eq_true rfl) rfl ?_
                          refine R_ldc2 hB dX8_digest_211 kl_X8_299 ?_
                          refine R_lload_n hB (j := 0) dX8_digest_214 rfl rfl ?_
                          refine R_lmul hB dX8_digest_215 ?_
                          refine R_aload_n hB (j := 1) dX8_digest_216 rfl rfl ?_
                          refine R_bipush hB dX8_digest_217 rfl ?_
                          refine R_bipush hB dX8_digest_219 rfl ?_
                          refine R_iconst hB dX8_digest_221 ?_
                          refine R_cV1 hB (s_courtOf 7 8 1 (by omega) (by omega) hI hRl) mv_X8_279 rfl rfl (by decide) dX8_digest_222 rfl rfl (Nat.le_of_ble_eq_true rfl) (fun z222 τ222 h222 => ?_)
                          obtain ⟨c1, c2⟩ := h222
                          have e222 : z222 = crtM σ 7 8 := by rw [c2, if_neg (by decide)]; exact mm_crtM F.1 hns.2 7 8
                          have F := F.tr c1
                          refine R_i2lw hB dX8_digest_225 ?_
                          refine R_ladd hB dX8_digest_226 ?_
                          exact R_lret hB hE rfl dX8_digest_227 (⟨F, by unfold dig; rw [← e38, ← e51, ← e152, ← e164, ← e176, ← e188, ← e205, ← e222, hh5, hh4, hh3, hh1]; rfl⟩)
                        · refine R_ldc2 hB dX8_digest_110 kl_X8_299 ?_
                          refine R_lload_n hB (j := 1) dX8_digest_113 rfl rfl ?_
                          refine R_lmul hB dX8_digest_114 ?_
                          refine R_aload_n hB (j := 0) dX8_digest_115 rfl rfl ?_
                          refine R_iconst hB dX8_digest_116 ?_
                          refine R_iload_n hB (j := 2) dX8_digest_117 rfl rfl ?_
                          refine R_iconst hB dX8_digest_118 ?_
                          refine R_cV1 hB (s_quietOf 4 q (-1) (by omega) (by omega) (by omega) (h.mm F.1) R8.2.1) mv_X8_214 rfl rfl (by decide) dX8_digest_119 rfl rfl (Nat.le_of_ble_eq_true rfl) (fun z119 τ119 h119 => ?_)
                          obtain ⟨c1, c3, c2⟩ := h119
                          have e119 : z119 = cQu σ q (-1) := by
                            refine c2.trans ?_
                            rw [mm_cQg F.1 hns.2]
                            exact cQg_4 _ _ _
                          have F := F.tr c1
                          have hI := h.mm F.1
                          have hRl := c3.2.1
                          have R9 := c3
                          refine R_i2lw hB dX8_digest_122 ?_
                          refine R_ladd hB dX8_digest_123 ?_
                          refine R_lstore_n hB (L' := [_, _, _]) dX8_digest_124 rfl (Nat.le_of_ble_eq_true rfl) rfl ?_
                          refine R_ldc2 hB dX8_digest_125 kl_X8_299 ?_
                          refine R_lload_n hB (j := 0) dX8_digest_128 rfl rfl ?_
                          refine R_lmul hB dX8_digest_129 ?_
                          refine R_aload_n hB (j := 1) dX8_digest_130 rfl rfl ?_
                          refine R_iconst hB dX8_digest_131 ?_
                          refine R_iload_n hB (j := 2) dX8_digest_132 rfl rfl ?_
                          refine R_iconst hB dX8_digest_133 ?_
                          refine R_cV1 hB (s_quietOf 4 q 0 (by omega) (by omega) (by omega) hI hRl) mv_X8_214 rfl rfl (by decide) dX8_digest_134 rfl rfl (Nat.le_of_ble_eq_true rfl) (fun z134 τ134 h134 => ?_)
                          obtain ⟨c1, c3, c2⟩ := h134
                          have e134 : z134 = cQu σ q 0 := by
                            refine c2.trans ?_
                            rw [mm_cQg F.1 hns.2]
                            exact cQg_4 _ _ _
                          have F := F.tr c1
                          have hI := h.mm F.1
                          have hRl := c3.2.1
                          have R9 := c3
                          refine R_i2lw hB dX8_digest_137 ?_
                          refine R_ladd hB dX8_digest_138 ?_
                          refine R_lstore_n hB (L' := [_, _, _]) dX8_digest_139 rfl (Nat.le_of_ble_eq_true rfl) rfl ?_
                          refine R_iinc hB (j := 2) (L' := [_, _, _]) dX8_digest_140 rfl (Nat.le_of_ble_eq_true rfl) rfl ?_
                          refine R_goto hB 105 dX8_digest_143 rfl ?_
                          exact R_sub [2, 1, 0] rfl (ih_105 _ _ _ (by omega) (by omega) F R9 (by rw [show (q + 1).toNat = q.toNat + 1 by omega]; simp only [itN]; rw [e119, e134, hh5, show ((q.toNat : Nat) : Int) = q by omega]))
                    exact R_sub [1, 2, 0] rfl (lp_105 _ _ _ _ (Nat.lt_succ_self _) (by omega) F R6 rfl)
                  · rw [p6] at h87
                    refine R_aload_n hB (j := 0) dX8_digest_90 rfl rfl ?_
                    refine R_lload_n hB (j := 1) dX8_digest_91 rfl rfl ?_
                    refine R_iload_n hB (j := 2) dX8_digest_92 rfl rfl ?_
                    refine R_cV2 hB (s_mdeedDigest hc d (by rw [F.1 2 (by decide)]; omega) R6 (hB0.2.1.mm F)) mv_X8_310 rfl rfl (by decide) dX8_digest_93 rfl rfl (Nat.le_of_ble_eq_true rfl) (fun z93 τ93 h93 => ?_)
                    obtain ⟨c1, c3, c2⟩ := h93
                    have e93 : z93 = dDd σ d hc := by
                      refine c2.trans ?_
                      exact mm_dDd F.1 hns.2 d hc
                    have F := F.tr c1
                    have hI := h.mm F.1
                    have hRl := c3.2.1
                    have R9 := c3
                    refine R_lstore_n hB (L' := [_, _, _]) dX8_digest_96 rfl (Nat.le_of_ble_eq_true rfl) rfl ?_
                    refine R_iinc hB (j := 2) (L' := [_, _, _]) dX8_digest_97 rfl (Nat.le_of_ble_eq_true rfl) rfl ?_
                    refine R_goto hB 82 dX8_digest_100 rfl ?_
                    exact R_sub [2, 1, 0] rfl (ih_82 _ _ _ (by omega) (by omega) F R9 (by rw [show (d + 1).toNat = d.toNat + 1 by omega]; simp only [itN]; rw [e93, hh4, show ((d.toNat : Nat) : Int) = d by omega]))
              exact R_sub [1, 2, 0] rfl (lp_82 _ _ _ _ (Nat.lt_succ_self _) (by omega) F R4 rfl)
            · rw [p4] at h64
              refine R_aload_n hB (j := 0) dX8_digest_67 rfl rfl ?_
              refine R_lload_n hB (j := 1) dX8_digest_68 rfl rfl ?_
              refine R_iload_n hB (j := 2) dX8_digest_69 rfl rfl ?_
              refine R_cV2 hB (s_msleeperDigest hb s (by rw [F.1 0 (by decide)]; omega) R4) mv_X8_306 rfl rfl (by decide) dX8_digest_70 rfl rfl (Nat.le_of_ble_eq_true rfl) (fun z70 τ70 h70 => ?_)
              obtain ⟨c1, c3, c2⟩ := h70
              have e70 : z70 = dSl σ s.toNat hb := by
                refine c2.trans ?_
                exact mm_dSl F.1 hns.2 (by omega) hb
              have F := F.tr c1
              have hI := h.mm F.1
              have hRl := c3.2.1
              have R9 := c3
              refine R_lstore_n hB (L' := [_, _, _]) dX8_digest_73 rfl (Nat.le_of_ble_eq_true rfl) rfl ?_
              refine R_iinc hB (j := 2) (L' := [_, _, _]) dX8_digest_74 rfl (Nat.le_of_ble_eq_true rfl) rfl ?_
              refine R_goto hB 59 dX8_digest_77 rfl ?_
              exact R_sub [2, 1, 0] rfl (ih_59 _ _ _ (by omega) (by omega) F R9 (by rw [show (s + 1).toNat = s.toNat + 1 by omega]; simp only [itN]; rw [e70, hh3]))
        exact R_sub [2, 1, 0] rfl (lp_59 _ _ _ _ (Nat.lt_succ_self _) (by omega) F c3 rfl)
      · refine R_ldc2 hB dX8_digest_12 kl_X8_299 ?_
        refine R_lload_n hB (j := 1) dX8_digest_15 rfl rfl ?_
        refine R_lmul hB dX8_digest_16 ?_
        refine R_aload_n hB (j := 0) dX8_digest_17 rfl rfl ?_
        refine R_iload_n hB (j := 2) dX8_digest_18 rfl rfl ?_
        refine R_cV1 hB (s_mcount wv (by omega) (h.mm F.1) (hB0.mm F)) mv_X8_303 rfl rfl (by decide) dX8_digest_19 rfl rfl (Nat.le_of_ble_eq_true rfl) (fun z19 τ19 h19 => ?_)
        obtain ⟨c1, c2⟩ := h19
        have e19 : z19 = cCt σ wv := by
          rw [c2]
          exact mm_cCt2 F hns.2 wv
        have F := F.tr c1
        refine R_i2lw hB dX8_digest_22 ?_
        refine R_ladd hB dX8_digest_23 ?_
        refine R_lstore_n hB (L' := [_, _, _]) dX8_digest_24 rfl (Nat.le_of_ble_eq_true rfl) rfl ?_
        refine R_iinc hB (j := 2) (L' := [_, _, _]) dX8_digest_25 rfl (Nat.le_of_ble_eq_true rfl) rfl ?_
        refine R_goto hB 6 dX8_digest_28 rfl ?_
        exact R_sub [2, 1, 0] rfl (ih_6 _ _ _ (by omega) (by omega) F (by rw [show (wv + 1).toNat = wv.toNat + 1 by omega]; simp only [dgN]; rw [← hh1, e19, show ((wv.toNat : Nat) : Int) = wv by omega]))
  exact R_sub [2, 1, 0] rfl (lp_6 _ _ _ _ (Nat.lt_succ_self _) (by omega) FrM.rf rfl)
