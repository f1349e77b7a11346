theorem itN_cg {g g' : Nat → Int → Int} {n : Nat} (h : ∀ s, s < n → ∀ x, g s x = g' s x) (x : Int) : itN g n x = itN g' n x := by
  induction n with
  | zero => rfl
  | succ n ih => simp only [itN]; rw [ih (fun s hs => h s (by omega)), h n (by omega)]

theorem s_digest {Θ : Th} {σ : Mem} (h : InvC σ) : Spc Θ M_X7_digest 2 [.ref (Th.r Θ 0)] σ (fun r σ' => Same SC σ σ' ∧ r = dig σ) := by
  refine Spc_of (by decide +kernel) (Nat.le_of_ble_eq_true rfl) (fun Γ hB hE => ?_)
  show Run Θ Γ 0 [(0, .ref (Th.r Θ 0))] [] σ
  have hns := h.ns
  have hw := h.row
  have hn := hw.1
  have hr := h.2.2.2.1
  refine R_ldc2 hB dX7_digest_0 kl_X7_325 ?_
  refine R_lstore_n hB (L' := [_, _]) dX7_digest_3 rfl (Nat.le_of_ble_eq_true rfl) rfl ?_
  refine R_iconst hB dX7_digest_4 ?_
  refine R_istore_n hB (L' := [_, _, _]) dX7_digest_5 rfl (Nat.le_of_ble_eq_true rfl) rfl ?_
  have lp_6 : ∀ (n_6 : Nat) (ha wv : Int) (σ2 : Mem), ((8 - wv).toNat) < n_6 → (0 ≤ wv ∧ wv ≤ 8) → (Same SC σ σ2) → (ha = dgN (fun w => w32 (cCt σ (w : Int))) wv.toNat 17) → Run Θ Γ 6 [(0, .ref (Th.r Θ 0)), (1, .long (Jl ha)), (3, .int (I wv))] [] σ2 := by
    intro n_6
    induction n_6 with
    | zero => intro ha wv σ2 h_m; exact absurd h_m (Nat.not_lt_zero _)
    | succ n_6 ih_6 =>
      intro ha wv σ2 h_m hw8 hS hh1
      have hI := h.same hS
      refine R_iload_n hB (j := 2) dX7_digest_6 rfl rfl ?_
      refine R_bipush hB dX7_digest_7 rfl ?_
      refine R_icmp_ge hB 31 (by omega) (by omega) dX7_digest_9 rfl (fun h9 => ?_) (fun h9 => ?_)
      · have hw8 : wv = 8 := by omega
        subst hw8
        refine R_iconst hB dX7_digest_31 ?_
        refine R_istore_n hB (L' := [_, _, _]) dX7_digest_32 rfl (Nat.le_of_ble_eq_true rfl) rfl ?_
        have lp_33 : ∀ (n_33 : Nat) (hx wt : Int), ((2 - wt).toNat) < n_33 → (0 ≤ wt ∧ wt ≤ 2) → (hx = if wt = 0 then ha else if wt = 1 then 31 * ha + w32 (fzV 0 (σ 29) (σ 16 3)) else 31 * (31 * ha + w32 (fzV 0 (σ 29) (σ 16 3))) + w32 (fzV 1 (σ 30) (σ 17 3))) → Run Θ Γ 33 [(0, .ref (Th.r Θ 0)), (1, .long (Jl hx)), (3, .int (I wt))] [] σ2 := by
          intro n_33
          induction n_33 with
          | zero => intro hx wt h_m; exact absurd h_m (Nat.not_lt_zero _)
          | succ n_33 ih_33 =>
            intro hx wt h_m hw2 hh2
            refine R_iload_n hB (j := 2) dX7_digest_33 rfl rfl ?_
            refine R_aload_n hB (j := 0) dX7_digest_34 rfl rfl ?_
            refine R_getr hB (22) fl_X7_9 dX7_digest_35 rfl rfl ?_
            refine R_alen hB (z := 2) rfl (by decide) rfl dX7_digest_38 ?_
            refine R_icmp_ge hB 61 (by omega) (by omega) dX7_digest_39 rfl (fun h39 => ?_) (fun h39 => ?_)
            · have hw2 : wt = 2 := by omega
              subst hw2
              refine R_iconst hB dX7_digest_61 ?_
              refine R_istore_n hB (L' := [_, _, _]) dX7_digest_62 rfl (Nat.le_of_ble_eq_true rfl) rfl ?_
              have lp_63 : ∀ (n_63 : Nat) (hb s : Int) (σ4 : Mem), ((σ 0 2 - s).toNat) < n_63 → (0 ≤ s ∧ s ≤ σ 0 2) → (Same SC σ σ4) → (hb = itN (fun s h => dSl σ s h) s.toNat hx) → Run Θ Γ 63 [(0, .ref (Th.r Θ 0)), (1, .long (Jl hb)), (3, .int (I s))] [] σ4 := by
                intro n_63
                induction n_63 with
                | zero => intro hb s σ4 h_m; exact absurd h_m (Nat.not_lt_zero _)
                | succ n_63 ih_63 =>
                  intro hb s σ4 h_m hs hS hh3
                  have hI := h.same hS
                  refine R_iload_n hB (j := 2) dX7_digest_63 rfl rfl ?_
                  refine R_aload_n hB (j := 0) dX7_digest_64 rfl rfl ?_
                  refine R_geti hB fl_X7_118 dX7_digest_65 rfl ?_
                  refine R_icmp_ge hB 84 (by omega) (by rw [hS 0 (by decide)]; omega) dX7_digest_68 rfl (fun h68 => ?_) (fun h68 => ?_)
                  · rw [hS 0 (by decide)] at h68
                    have hsn : s = σ 0 2 := by omega
                    subst hsn
                    refine R_iconst hB dX7_digest_84 ?_
                    refine R_istore_n hB (L' := [_, _, _]) dX7_digest_85 rfl (Nat.le_of_ble_eq_true rfl) rfl ?_
                    have lp_86 : ∀ (n_86 : Nat) (hc d : Int) (σ6 : Mem), ((σ 2 4 - d).toNat) < n_86 → (0 ≤ d ∧ d ≤ σ 2 4) → (Same SC σ σ6) → (hc = itN (fun d h => dDd σ (d : Int) h) d.toNat hb) → Run Θ Γ 86 [(0, .ref (Th.r Θ 0)), (1, .long (Jl hc)), (3, .int (I d))] [] σ6 := by
                      intro n_86
                      induction n_86 with
                      | zero => intro hc d σ6 h_m; exact absurd h_m (Nat.not_lt_zero _)
                      | succ n_86 ih_86 =>
                        intro hc d σ6 h_m hd hS hh4
                        have hI := h.same hS
                        refine R_iload_n hB (j := 2) dX7_digest_86 rfl rfl ?_
                        refine R_aload_n hB (j := 0) dX7_digest_87 rfl rfl ?_
                        refine R_getr hB (2) fl_X7_24 dX7_digest_88 rfl rfl ?_
                        refine R_geti hB fl_X7_140 dX7_digest_91 rfl ?_
                        refine R_icmp_ge hB 110 (by omega) (by rw [hS 2 (by decide)]; omega) dX7_digest_94 rfl (fun h94 => ?_) (fun h94 => ?_)
                        · rw [hS 2 (by decide)] at h94
                          have hdn : d = σ 2 4 := by omega
                          subst hdn
                          refine R_iconst hB dX7_digest_110 ?_
                          refine R_istore_n hB (L' := [_, _, _]) dX7_digest_111 rfl (Nat.le_of_ble_eq_true rfl) rfl ?_
                          have lp_112 : ∀ (n_112 : Nat) (hd2 q : Int) (σ8 : Mem), ((4 - q).toNat) < n_112 → (0 ≤ q ∧ q ≤ 4) → (Same SC σ σ8) → (hd2 = itN (fun q h => 31 * (31 * h + w32 (cQu σ (q : Int) (-1))) + w32 (cQu σ (q : Int) 0)) q.toNat hc) → Run Θ Γ 112 [(0, .ref (Th.r Θ 0)), (1, .long (Jl hd2)), (3, .int (I q))] [] σ8 := by
                            intro n_112
                            induction n_112 with
                            | zero => intro hd2 q σ8 h_m; exact absurd h_m (Nat.not_lt_zero _)
                            | succ n_112 ih_112 =>
                              intro hd2 q σ8 h_m hq hS hh5
                              have hI := h.same hS
                              refine R_iload_n hB (j := 2) dX7_digest_112 rfl rfl ?_
                              refine R_iconst hB dX7_digest_113 ?_
                              refine R_icmp_ge hB 153 (by omega) (by omega) dX7_digest_114 rfl (fun h114 => ?_) (fun h114 => ?_)
                              · have hq4 : q = 4 := by omega
                                subst hq4
                                refine R_ldc2 hB dX7_digest_153 kl_X7_327 ?_
                                refine R_lload_n hB (j := 1) dX7_digest_156 rfl rfl ?_
                                refine R_lmul hB dX7_digest_157 ?_
                                refine R_aload_n hB (j := 0) dX7_digest_158 rfl rfl ?_
                                refine R_cV1 hB (s_best hI) mv_X7_346 rfl rfl (by decide) dX7_digest_159 rfl rfl (Nat.le_of_ble_eq_true rfl) (fun z159 τ159 h159 => ?_)
                                obtain ⟨c1, c2⟩ := h159
                                have q9 := sm_best hS hns.2
                                have e159 : z159 = amx (cMany σ) (σ 0 2).toNat := by
                                  rw [← q9]
                                  exact c2
                                have hS := hS.tr c1 (fun _ q => q) (fun _ q => q)
                                have hI := h.same hS
                                refine R_i2lw hB dX7_digest_162 ?_
                                refine R_ladd hB dX7_digest_163 ?_
                                refine R_lstore_n hB (L' := [_, _, _]) dX7_digest_164 rfl (Nat.le_of_ble_eq_true rfl) rfl ?_
                                refine R_ldc2 hB dX7_digest_165 kl_X7_327 ?_
                                refine R_lload_n hB (j := 0) dX7_digest_168 rfl rfl ?_
                                refine R_lmul hB dX7_digest_169 ?_
                                refine R_aload_n hB (j := 1) dX7_digest_170 rfl rfl ?_
                                refine R_cV1 hB (s_byAll hI) mv_X7_349 rfl rfl (by decide) dX7_digest_171 rfl rfl (Nat.le_of_ble_eq_true rfl) (fun z171 τ171 h171 => ?_)
                                obtain ⟨c1, c2⟩ := h171
                                have q9 := sm_cBA hS hns.2
                                have e171 : z171 = cBA σ := by
                                  rw [← q9]
                                  exact c2
                                have hS := hS.tr c1 (fun _ q => q) (fun _ q => q)
                                have hI := h.same hS
                                refine R_i2lw hB dX7_digest_174 ?_
                                refine R_ladd hB dX7_digest_175 ?_
                                refine R_lstore_n hB (L' := [_, _, _]) dX7_digest_176 rfl (Nat.le_of_ble_eq_true rfl) rfl ?_
                                refine R_ldc2 hB dX7_digest_177 kl_X7_327 ?_
                                refine R_lload_n hB (j := 0) dX7_digest_180 rfl rfl ?_
                                refine R_lmul hB dX7_digest_181 ?_
                                refine R_aload_n hB (j := 1) dX7_digest_182 rfl rfl ?_
                                refine R_cV1 hB (s_never hI) mv_X7_261 rfl rfl (by decide) dX7_digest_183 rfl rfl (Nat.le_of_ble_eq_true rfl) (fun z183 τ183 h183 => ?_)
                                obtain ⟨c1, c2⟩ := h183
                                have e183 : z183 = bsum (nvB σ) (σ 2 4).toNat := by
                                  rw [sm_nvB hS hns.2, hS 2 (by decide)] at c2
                                  exact c2
                                have hS := hS.tr c1 (fun _ q => q) (fun _ q => q)
                                have hI := h.same hS
                                refine R_i2lw hB dX7_digest_186 ?_
                                refine R_ladd hB dX7_digest_187 ?_
                                refine R_lstore_n hB (L' := [_, _, _]) dX7_digest_188 rfl (Nat.le_of_ble_eq_true rfl) rfl ?_
                                refine R_ldc2 hB dX7_digest_189 kl_X7_327 ?_
                                refine R_lload_n hB (j := 0) dX7_digest_192 rfl rfl ?_
                                refine R_lmul hB dX7_digest_193 ?_
                                refine R_aload_n hB (j := 1) dX7_digest_194 rfl rfl ?_
                                refine R_cV1 hB (s_ask hI) mv_X7_352 rfl rfl (by decide) dX7_digest_195 rfl rfl (Nat.le_of_ble_eq_true rfl) (fun z195 τ195 h195 => ?_)
                                obtain ⟨c1, c2⟩ := h195
                                have q9 := sm_ask hS hns.2 hn.2
                                have e195 : z195 = amx (aMost σ) (σ 0 2).toNat := by
                                  rw [← q9]
                                  exact c2
                                have hS := hS.tr c1 (fun _ q => q) (fun _ q => q)
                                have hI := h.same hS
                                refine R_i2lw hB dX7_digest_198 ?_
                                refine R_ladd hB dX7_digest_199 ?_
                                refine R_lstore_n hB (L' := [_, _, _]) dX7_digest_200 rfl (Nat.le_of_ble_eq_true rfl) rfl ?_
                                refine R_ldc2 hB dX7_digest_201 kl_X7_327 ?_
                                refine R_lload_n hB (j := 0) dX7_digest_204 rfl rfl ?_
                                refine R_lmul hB dX7_digest_205 ?_
                                refine R_aload_n hB (j := 1) dX7_digest_206 rfl rfl ?_
                                refine R_bipush hB dX7_digest_207 rfl ?_
                                refine R_bipush hB dX7_digest_209 rfl ?_
                                refine R_iconst hB dX7_digest_211 ?_
                                refine R_cV1 hB (s_court 7 8 0 (by omega) (by omega) (by omega) hI) mv_X7_355 rfl rfl (by decide) dX7_digest_212 rfl rfl (Nat.le_of_ble_eq_true rfl) (fun z212 τ212 h212 => ?_)
                                obtain ⟨c1, c2⟩ := h212
                                rw [if_pos (by omega), if_pos rfl] at c2
                                have q9 := sm_crtP hS hns.2 7 8
                                have e212 : z212 = crtP σ 7 8 := by
                                  rw [← q9]
                                  exact c2
                                have hS := hS.tr c1 (fun _ q => q) (fun _ q => q)
                                have hI := h.same hS
                                refine R_i2lw hB dX7_digest_215 ?_
                                refine R_ladd hB dX7_digest_216 ?_
                                refine R_lstore_n hB (L' := [_, _, _]) dX7_digest_217 rfl (Nat.le_of_ble_eq_true rfl) rfl ?_
                                refine R_ldc2 hB dX7_digest_218 kl_X7_327 ?_
                                refine R_lload_n hB (j := 0) dX7_digest_221 rfl rfl ?_
                                refine R_lmul hB dX7_digest_222 ?_
                                refine R_aload_n hB (j := 1) dX7_digest_223 rfl rfl ?_
                                refine R_bipush hB dX7_digest_224 rfl ?_
                                refine R_bipush hB dX7_digest_226 rfl ?_
                                refine R_iconst hB dX7_digest_228 ?_
                                refine R_cV1 hB (s_court 7 8 1 (by omega) (by omega) (by omega) hI) mv_X7_355 rfl rfl (by decide) dX7_digest_229 rfl rfl (Nat.le_of_ble_eq_true rfl) (fun z229 τ229 h229 => ?_)
                                obtain ⟨c1, c2⟩ := h229
                                rw [if_pos (by omega), if_neg (by decide)] at c2
                                have q9 := sm_crtM hS hns.2 7 8
                                have e229 : z229 = crtM σ 7 8 := by
                                  rw [← q9]
                                  exact c2
                                have hS := hS.tr c1 (fun _ q => q) (fun _ q => q)
                                have hI := h.same hS
                                refine R_i2lw hB dX7_digest_232 ?_
                                refine R_ladd hB dX7_digest_233 ?_
                                exact R_lret hB hE rfl dX7_digest_234 (⟨hS, by unfold dig; rw [← e159, ← e171, ← e183, ← e195, ← e212, ← e229, hh5, hh4, hh3, hh2, hh1]; rfl⟩)
                              · refine R_ldc2 hB dX7_digest_117 kl_X7_327 ?_
                                refine R_lload_n hB (j := 1) dX7_digest_120 rfl rfl ?_
                                refine R_lmul hB dX7_digest_121 ?_
                                refine R_aload_n hB (j := 0) dX7_digest_122 rfl rfl ?_
                                refine R_iconst hB dX7_digest_123 ?_
                                refine R_iload_n hB (j := 2) dX7_digest_124 rfl rfl ?_
                                refine R_iconst hB dX7_digest_125 ?_
                                refine R_cV1 hB (s_quiet 4 q (-1) (by omega) (by omega) (by omega) hI) mv_X7_342 rfl rfl (by decide) dX7_digest_126 rfl rfl (Nat.le_of_ble_eq_true rfl) (fun z126 τ126 h126 => ?_)
                                obtain ⟨c1, c2⟩ := h126
                                rw [if_pos (by omega)] at c2
                                have q9 := sm_cQu hS hns.2 q (-1)
                                have e126 : z126 = cQu σ q (-1) := by
                                  rw [← q9]
                                  exact c2
                                have hS := hS.tr c1 (fun _ q => q) (fun _ q => q)
                                have hI := h.same hS
                                refine R_i2lw hB dX7_digest_129 ?_
                                refine R_ladd hB dX7_digest_130 ?_
                                refine R_lstore_n hB (L' := [_, _, _]) dX7_digest_131 rfl (Nat.le_of_ble_eq_true rfl) rfl ?_
                                refine R_ldc2 hB dX7_digest_132 kl_X7_327 ?_
                                refine R_lload_n hB (j := 0) dX7_digest_135 rfl rfl ?_
                                refine R_lmul hB dX7_digest_136 ?_
                                refine R_aload_n hB (j := 1) dX7_digest_137 rfl rfl ?_
                                refine R_iconst hB dX7_digest_138 ?_
                                refine R_iload_n hB (j := 2) dX7_digest_139 rfl rfl ?_
                                refine R_iconst hB dX7_digest_140 ?_
                                refine R_cV1 hB (s_quiet 4 q 0 (by omega) (by omega) (by omega) hI) mv_X7_342 rfl rfl (by decide) dX7_digest_141 rfl rfl (Nat.le_of_ble_eq_true rfl) (fun z141 τ141 h141 => ?_)
                                obtain ⟨c1, c2⟩ := h141
                                rw [if_pos (by omega)] at c2
                                have q9 := sm_cQu hS hns.2 q 0
                                have e141 : z141 = cQu σ q 0 := by
                                  rw [← q9]
                                  exact c2
                                have hS := hS.tr c1 (fun _ q => q) (fun _ q => q)
                                have hI := h.same hS
                                refine R_i2lw hB dX7_digest_144 ?_
                                refine R_ladd hB dX7_digest_145 ?_
                                refine R_lstore_n hB (L' := [_, _, _]) dX7_digest_146 rfl (Nat.le_of_ble_eq_true rfl) rfl ?_
                                refine R_iinc hB (j := 2) (L' := [_, _, _]) dX7_digest_147 rfl (Nat.le_of_ble_eq_true rfl) rfl ?_
                                refine R_goto hB 112 dX7_digest_150 rfl ?_
                                exact R_sub [2, 1, 0] rfl (ih_112 _ _ _ (by omega) (by omega) hS (by rw [show (q + 1).toNat = q.toNat + 1 by omega]; simp only [itN]; rw [e126, e141, hh5, show ((q.toNat : Nat) : Int) = q by omega]))
                          exact R_sub [1, 2, 0] rfl (lp_112 _ _ _ _ (Nat.lt_succ_self _) (by omega) hS rfl)
                        · rw [hS 2 (by decide)] at h94
                          refine R_aload_n hB (j := 0) dX7_digest_97 rfl rfl ?_
                          refine R_lload_n hB (j := 1) dX7_digest_98 rfl rfl ?_
                          refine R_iload_n hB (j := 2) dX7_digest_99 rfl rfl ?_
                          refine R_cV2 hB (s_digestDeed hc d (by rw [hS 2 (by decide)]; omega) hI) mv_X7_339 rfl rfl (by decide) dX7_digest_100 rfl rfl (Nat.le_of_ble_eq_true rfl) (fun z100 τ100 h100 => ?_)
                          obtain ⟨c1, c2⟩ := h100
                          have e100 : z100 = dDd σ d hc := by
                            have f1 : (fun w : Nat => w32 (cPf σ6 d (w : Int))) = fun w : Nat => w32 (cPf σ d (w : Int)) := funext (fun w => by rw [sm_cPf hS hns.2])
                            have f2 : (fun w : Nat => w32 (cDe σ6 d (w : Int))) = fun w : Nat => w32 (cDe σ d (w : Int)) := funext (fun w => by rw [sm_cDe hS])
                            rw [c2]
                            unfold dDd
                            rw [f1, f2, sm_plB hS hns.2, sm_cNd hS hns.2, sm_cNd hS hns.2, sm_fgM hS hns.2, sm_fgT hS hns.2, hS 0 (by decide)]
                            exact itN_cg (fun s q h => by
                              have f3 : (fun w : Nat => w32 (cHe σ6 d s (w : Int))) = fun w : Nat => w32 (cHe σ d s (w : Int)) := funext (fun w => by rw [sm_cHe hS (by omega)])
                              rw [f3]) _
                          have hS := hS.tr c1 (fun _ q => q) (fun _ q => q)
                          refine R_lstore_n hB (L' := [_, _, _]) dX7_digest_103 rfl (Nat.le_of_ble_eq_true rfl) rfl ?_
                          refine R_iinc hB (j := 2) (L' := [_, _, _]) dX7_digest_104 rfl (Nat.le_of_ble_eq_true rfl) rfl ?_
                          refine R_goto hB 86 dX7_digest_107 rfl ?_
                          exact R_sub [2, 1, 0] rfl (ih_86 _ _ _ (by omega) (by omega) hS (by rw [show (d + 1).toNat = d.toNat + 1 by omega]; simp only [itN]; rw [e100, hh4, show ((d.toNat : Nat) : Int) = d by omega]))
                    exact R_sub [1, 2, 0] rfl (lp_86 _ _ _ _ (Nat.lt_succ_self _) (by omega) hS rfl)
                  · rw [hS 0 (by decide)] at h68
                    refine R_aload_n hB (j := 0) dX7_digest_71 rfl rfl ?_
                    refine R_lload_n hB (j := 1) dX7_digest_72 rfl rfl ?_
                    refine R_iload_n hB (j := 2) dX7_digest_73 rfl rfl ?_
                    refine R_cV2 hB (s_digestSleeper hb s (by rw [hS 0 (by decide)]; omega) hI) mv_X7_335 rfl rfl (by decide) dX7_digest_74 rfl rfl (Nat.le_of_ble_eq_true rfl) (fun z74 τ74 h74 => ?_)
                    obtain ⟨c1, c2⟩ := h74
                    have e74 : z74 = dSl σ s.toNat hb := by
                      rw [c2]
                      unfold dSl
                      rw [hS (8 + s.toNat) (by simp; omega), sm_dpH hS (by omega), sm_dpH hS (by omega), sm_dpH hS (by omega), sm_cWk hS (by omega), sm_many hS (by omega), sm_mvP hS hns.2 (by omega), sm_fdP hS (by omega)]
                    have hS := hS.tr c1 (fun _ q => q) (fun _ q => q)
                    refine R_lstore_n hB (L' := [_, _, _]) dX7_digest_77 rfl (Nat.le_of_ble_eq_true rfl) rfl ?_
                    refine R_iinc hB (j := 2) (L' := [_, _, _]) dX7_digest_78 rfl (Nat.le_of_ble_eq_true rfl) rfl ?_
                    refine R_goto hB 63 dX7_digest_81 rfl ?_
                    exact R_sub [2, 1, 0] rfl (ih_63 _ _ _ (by omega) (by omega) hS (by rw [show (s + 1).toNat = s.toNat + 1 by omega]; simp only [itN]; rw [e74, hh3]))
              exact R_sub [1, 2, 0] rfl (lp_63 _ _ _ _ (Nat.lt_succ_self _) (by omega) hS rfl)
            · refine R_ldc2 hB dX7_digest_42 kl_X7_327 ?_
              refine R_lload_n hB (j := 1) dX7_digest_45 rfl rfl ?_
              refine R_lmul hB dX7_digest_46 ?_
              refine R_aload_n hB (j := 0) dX7_digest_47 rfl rfl ?_
              refine R_iload_n hB (j := 2) dX7_digest_48 rfl rfl ?_
              refine P_cV1 hB (s_fault wt (by omega) hI) mv_X7_332 rfl rfl (by decide) dX7_digest_49 rfl rfl (Nat.le_of_ble_eq_true rfl) (fun z49 h49 => ?_)
              rw [if_pos (by omega)] at h49
              have hfz := fzV_eq h49
              refine R_i2lw hB dX7_digest_52 ?_
              refine R_ladd hB dX7_digest_53 ?_
              refine R_lstore_n hB (L' := [_, _, _]) dX7_digest_54 rfl (Nat.le_of_ble_eq_true rfl) rfl ?_
              refine R_iinc hB (j := 2) (L' := [_, _, _]) dX7_digest_55 rfl (Nat.le_of_ble_eq_true rfl) rfl ?_
              refine R_goto hB 33 dX7_digest_58 rfl ?_
              exact R_sub [2, 1, 0] rfl (ih_33 _ _ (by omega) (by omega) (by
                rcases (show wt = 0 ∨ wt = 1 by omega) with c | c
                · subst c
                  rw [if_neg (by decide), if_pos (by decide), hh2, if_pos rfl, hfz]
                  have e1 : σ2 29 = σ 29 := hS 29 (by decide)
                  have e2 : σ2 16 = σ 16 := hS 16 (by decide)
                  show 31 * ha + w32 (fzV 0 (σ2 29) (σ2 16 3)) = _
                  rw [e1, e2]
                · subst c
                  rw [if_neg (by decide), if_neg (by decide), hh2, if_neg (by decide), if_pos rfl, hfz]
                  have e1 : σ2 30 = σ 30 := hS 30 (by decide)
                  have e2 : σ2 17 = σ 17 := hS 17 (by decide)
                  show 31 * (31 * ha + w32 (fzV 0 (σ 29) (σ 16 3))) + w32 (fzV 1 (σ2 30) (σ2 17 3)) = _
                  rw [e1, e2]))
        exact R_sub [1, 2, 0] rfl (lp_33 _ _ _ (Nat.lt_succ_self _) (by omega) (by rw [if_pos rfl]))
      · refine R_ldc2 hB dX7_digest_12 kl_X7_327 ?_
        refine R_lload_n hB (j := 1) dX7_digest_15 rfl rfl ?_
        refine R_lmul hB dX7_digest_16 ?_
        refine R_aload_n hB (j := 0) dX7_digest_17 rfl rfl ?_
        refine R_iload_n hB (j := 2) dX7_digest_18 rfl rfl ?_
        refine R_cV1 hB (s_count wv (by omega) hI) mv_X7_329 rfl rfl (by decide) dX7_digest_19 rfl rfl (Nat.le_of_ble_eq_true rfl) (fun z19 τ19 h19 => ?_)
        obtain ⟨c1, c2⟩ := h19
        have q9 := sm_cCt hS hns.2 wv
        have e19 : z19 = cCt σ wv := by
          rw [← q9]
          exact c2
        have hS := hS.tr c1 (fun _ q => q) (fun _ q => q)
        refine R_i2lw hB dX7_digest_22 ?_
        refine R_ladd hB dX7_digest_23 ?_
        refine R_lstore_n hB (L' := [_, _, _]) dX7_digest_24 rfl (Nat.le_of_ble_eq_true rfl) rfl ?_
        refine R_iinc hB (j := 2) (L' := [_, _, _]) dX7_digest_25 rfl (Nat.le_of_ble_eq_true rfl) rfl ?_
        refine R_goto hB 6 dX7_digest_28 rfl ?_
        exact R_sub [2, 1, 0] rfl (ih_6 _ _ _ (by omega) (by omega) hS (by rw [show (wv + 1).toNat = wv.toNat + 1 by omega]; simp only [dgN]; rw [← hh1, e19, show ((wv.toNat : Nat) : Int) = wv by omega]))
  exact R_sub [2, 1, 0] rfl (lp_6 _ _ _ _ (Nat.lt_succ_self _) (by omega) Same.rf rfl)
