theorem court_w {σ σ2 σ3 : Mem} {x n : Int} (h : InvC σ) (hn : 1 ≤ n ∧ n ≤ 8) (hb : σ2 1 2 = σ 0 2) (hz : ∀ s : Nat, (s : Int) < σ 0 2 → mz σ2 s 0 = σ (8 + s) 0 ∧ mz σ2 s 1 = σ (8 + s) 1 ∧ mz σ2 s 2 = σ (8 + s) 2 ∧ mz σ2 s 3 = σ (8 + s) 3) (hl : σ2 1 11 = σ 25 0 ∧ σ2 1 12 = σ 25 1 ∧ σ2 1 13 = σ 25 2) (h7 : σ2 1 7 = n) (h14 : σ2 1 14 = 0) (h15 : σ2 1 15 = 0) (he : ∀ i, 0 ≤ i → i < n → σ2 59 i = crH x i ∧ σ2 60 i = crO x i ∧ σ2 61 i = crS x i) (hq : RunQ σ2 σ3) :
    cnt (fun d : Nat => prB σ3 (d : Int)) n.toNat = crtP σ x n ∧ sumN (fun k : Nat => mkN σ3 (k : Int) (-1)) (σ 0 2).toNat = crtM σ x n := by
  have hns := h.ns
  have ev : mE σ2 50 = evs (crH x) n.toNat 50 := by
    rw [mE_0 h14, h7]
    exact evs_cg (fun i i1 i2 => (he i i1 (by omega)).1) 50
  have hev : ∀ e ∈ evs (crH x) n.toNat 50, σ2 59 e = crH x e ∧ σ2 60 e = crO x e ∧ σ2 61 e = crS x e := fun e q => by
    have := (evs_mem.mp q).1
    exact he e this.1 (by omega)
  have e56 : ∀ s : Nat, (s : Int) < σ 0 2 → σ2 56 s = σ (8 + s) 1 := fun s hs => by rw [← (hz s hs).2.1]; exact (mz_v σ2 s).2.1.symm
  constructor
  · unfold crtP
    refine cnt_cg (fun d hd => ?_)
    rw [hq.pr (by omega) (by omega), mP_0 h14, Bool.true_and, hl.2.2, hb]
    have e : cnt (fun k : Nat => mTS σ2 (k : Int) (d : Int)) (σ 0 2).toNat = cnt (fun s => cTSr σ (crH x) (crO x) (crS x) n.toNat s (d : Int)) (σ 0 2).toNat := cnt_cg (fun s hs => by
      unfold mTS cTSr
      rw [ev, e56 s (by omega), hl.1, hl.2.1, tsL_cg (hz s (by omega)) hev _ _ _ (he d (by omega) (by omega)).1, h15]
      simp)
    rw [e]
  · unfold crtM
    refine sumN_cg (fun s hs => ?_)
    rw [hq.mk (by omega) (by omega)]
    unfold mcn
    rw [ev, e56 s (by omega)]
    exact (night_id (hz s (by omega)) hev _).2 3 (fun _ => true) (fun d => decide ((-1 : Int) = -1 ∨ σ2 61 d = -1)) (fun e _ => by simp)

theorem s_courtOf {Θ : Th} {σ : Mem} (x n w : Int) (hn : 1 ≤ n ∧ n ≤ 8) (hw : 0 ≤ w ∧ w < 2) (h : InvC σ) (hR : Rel σ) : Spc Θ M_X8_courtOf 1 [.ref (Th.r Θ 1), .int (I x), .int (I n), .int (I w)] σ (fun r σ' => FrM σ σ' ∧ r = (if w = 0 then crtP σ x n else crtM σ x n)) := by
  refine Spc_of (by decide +kernel) (Nat.le_of_ble_eq_true rfl) (fun Γ hB hE => ?_)
  show Run Θ Γ 0 [(0, .ref (Th.r Θ 1)), (1, .int (I x)), (2, .int (I n)), (3, .int (I w))] [] σ
  have hns := h.ns
  have hds := h.row.1
  refine R_aload_n hB (j := 0) dX8_courtOf_0 rfl rfl ?_
  refine R_cV0 hB (s_asTold h hR) mv_X8_171 rfl rfl (by decide) dX8_courtOf_1 rfl rfl (Nat.le_of_ble_eq_true rfl) (fun σ1 h1 => ?_)
  obtain ⟨f1, f2, f3, f4⟩ := h1
  have r0 : σ1 0 = σ 0 := f1.1 0 (by decide)
  have r2 : σ1 2 = σ 2 := f1.1 2 (by decide)
  have n2 : σ1 1 2 = σ 0 2 := by rw [f2.2.2.1, r0]
  have n7 : σ1 1 7 = σ 2 4 := by rw [f2.2.2.2.1, r2]
  refine R_iload_n hB (j := 1) dX8_courtOf_4 rfl rfl ?_
  refine R_istore hB (L' := [_, _, _, _, _]) dX8_courtOf_5 (Nat.le_of_ble_eq_true rfl) rfl ?_
  refine R_aload_n hB (j := 1) dX8_courtOf_7 rfl rfl ?_
  refine R_iload_n hB (j := 3) dX8_courtOf_8 rfl rfl ?_
  refine N_puti hB fp_X8_117 dX8_courtOf_9 rfl (by omega) (fun σ2 e2 => ?_)
  have S2 : Same [1, 59, 60, 61] σ1 σ2 := by rw [e2]; exact Same.up (by decide)
  have k2 : ∀ k, k ≠ 7 → σ2 1 k = σ1 1 k := fun k hk => by rw [e2, up_n (by omega)]
  have m7 : σ2 1 7 = n := by rw [e2, up_s]
  refine R_iconst hB dX8_courtOf_12 ?_
  refine R_istore hB (L' := [_, _, _, _, _, _]) dX8_courtOf_13 (Nat.le_of_ble_eq_true rfl) rfl ?_
  have lp_15 : ∀ (n_15 : Nat) (sd d : Int) (σ3 : Mem), ((n - d).toNat) < n_15 → (0 ≤ d ∧ d ≤ n) → (sd = seedA x d.toNat) → (Same [1, 59, 60, 61] σ1 σ3) → (∀ k, k ≠ 7 → σ3 1 k = σ1 1 k) → (σ3 1 7 = n) → (∀ i, 0 ≤ i → i < d → σ3 59 i = crH x i ∧ σ3 60 i = crO x i ∧ σ3 61 i = crS x i) → Run Θ Γ 15 [(0, .ref (Th.r Θ 1)), (1, .int (I x)), (2, .int (I n)), (3, .int (I w)), (4, .int (I sd)), (5, .int (I d))] [] σ3 := by
    intro n_15
    induction n_15 with
    | zero => intro sd d σ3 h_m; exact absurd h_m (Nat.not_lt_zero _)
    | succ n_15 ih_15 =>
      intro sd d σ3 h_m hd hsd hS h1k h37 hen
      refine R_iload hB (j := 5) dX8_courtOf_15 rfl ?_
      refine R_iload_n hB (j := 2) dX8_courtOf_17 rfl rfl ?_
      refine R_icmp_ge hB 107 (by omega) (by omega) dX8_courtOf_18 rfl (fun h18 => ?_) (fun h18 => ?_)
      · have hdn : d = n := by omega
        have kk : ∀ i, i ∉ [1, 59, 60, 61] → σ3 i = σ1 i := hS
        have F3 : FrM σ1 σ3 := ⟨fun i hi => hS i (fun q => hi (by simp only [List.mem_cons, List.not_mem_nil, or_false] at *; omega)), fun k _ q _ _ => by rw [h1k k q]⟩
        have b3 : σ3 1 2 = σ 0 2 := by rw [h1k 2 (by decide)]; exact n2
        have mzs : mz σ3 = mz σ1 := by
          funext k i
          unfold mz
          rw [hS 55 (by decide), hS 56 (by decide), hS 57 (by decide), hS 58 (by decide)]
        have z3 : ∀ s : Nat, (s : Int) < σ 0 2 → mz σ3 s 0 = σ (8 + s) 0 ∧ mz σ3 s 1 = σ (8 + s) 1 ∧ mz σ3 s 2 = σ (8 + s) 2 ∧ mz σ3 s 3 = σ (8 + s) 3 := fun s hs => by
          have := f2.z (s := s) (by rw [r0]; exact hs)
          rw [f1.1 (8 + s) (by simp; omega)] at this
          rw [mzs]; exact this
        have l3 : σ3 1 11 = σ 25 0 ∧ σ3 1 12 = σ 25 1 ∧ σ3 1 13 = σ 25 2 := by
          rw [h1k 11 (by decide), h1k 12 (by decide), h1k 13 (by decide)]
          have := f2.2.1.2.2.2
          rw [f1.1 25 (by decide)] at this
          exact this
        have n14 : σ3 1 14 = 0 := by rw [h1k 14 (by decide)]; exact f3
        have n15 : σ3 1 15 = 0 := by rw [h1k 15 (by decide)]; exact f4
        have hlw := h.2.2.2.1
        unfold LawOK at hlw
        have N3 : NPre σ3 := by
          refine ⟨by omega, by omega, fun k q1 q2 => ?_, fun e q1 q2 => ?_, by omega, by omega, by omega⟩
          · obtain ⟨s, rfl⟩ := Int.eq_ofNat_of_zero_le q1
            rw [b3] at q2
            have hb := h.bed q2
            obtain ⟨y0, y1, y2, y3⟩ := z3 s q2
            unfold BedOK at *
            rw [y0, y1, y2, y3]; exact hb
          · obtain ⟨y0, y1, y2⟩ := hen e q1 (by omega)
            rw [y0, y1, y2]
            have w1 := lotZ_in (lcg (seedA x e.toNat)) (n := 50) (by decide)
            have w2 := lotZ_in (lcg (lcg (seedA x e.toNat))) (n := 10) (by decide)
            have w3 := lotZ_in (lcg (lcg (lcg (seedA x e.toNat)))) (n := 4) (by decide)
            unfold crH crO crS
            omega
        refine R_aload_n hB (j := 0) dX8_courtOf_107 rfl rfl ?_
        refine R_cV0 hB (s_runs N3) mv_X8_174 rfl rfl (by decide) dX8_courtOf_108 rfl rfl (Nat.le_of_ble_eq_true rfl) (fun σ7 h108 => ?_)
        have CW := court_w (x := x) (n := n) h hn b3 z3 l3 (by omega) n14 n15 (fun i q1 q2 => hen i q1 (by omega)) h108
        have k71 : σ7 1 = σ3 1 := h108.1 1 (by decide)
        have F7 := (f1.tr F3).tr (FrM.ns h108.1)
        refine R_iload_n hB (j := 3) dX8_courtOf_111 rfl rfl ?_
        refine R_if_ne hB 122 (by omega) dX8_courtOf_112 rfl (fun h112 => ?_) (fun h112 => ?_)
        · refine R_aload_n hB (j := 0) dX8_courtOf_122 rfl rfl ?_
          refine P_cV1 hB (s_marksNow (by rw [k71]; omega) (by rw [k71]; omega)) mv_X8_276 rfl rfl (by decide) dX8_courtOf_123 rfl rfl (Nat.le_of_ble_eq_true rfl) (fun z123 h123 => ?_)
          rw [k71, b3, CW.2] at h123
          exact R_iret hB hE rfl dX8_courtOf_126 (by
            refine ⟨F7, ?_⟩
            first
            | (rw [if_pos h112]; exact h116)
            | (rw [if_neg h112]; exact h123))
        · refine R_aload_n hB (j := 0) dX8_courtOf_115 rfl rfl ?_
          refine P_cV1 hB (s_provenNow (by rw [k71]; omega) (by rw [k71]; omega)) mv_X8_217 rfl rfl (by decide) dX8_courtOf_116 rfl rfl (Nat.le_of_ble_eq_true rfl) (fun z116 h116 => ?_)
          rw [k71, h37, CW.1] at h116
          refine R_goto hB 126 dX8_courtOf_119 rfl ?_
          exact R_iret hB hE rfl dX8_courtOf_126 (by
            refine ⟨F7, ?_⟩
            first
            | (rw [if_pos h112]; exact h116)
            | (rw [if_neg h112]; exact h123))
      · refine R_ldcw hB dX8_courtOf_21 kc_X8_275 ?_
        refine R_iload hB (j := 4) dX8_courtOf_24 rfl ?_
        refine R_imul hB dX8_courtOf_26 ?_
        refine R_sipush hB dX8_courtOf_27 rfl ?_
        refine R_iadd hB dX8_courtOf_30 ?_
        refine R_nmi (fun y1 hy1 => ?_)
        refine R_istore hB (L' := [_, _, _, _, _, _]) dX8_courtOf_31 (Nat.le_of_ble_eq_true rfl) rfl ?_
        have hs1 : y1 = lcg (seedA x d.toNat) := by rw [hy1, hsd]; rfl
        refine R_aload_n hB (j := 1) dX8_courtOf_33 rfl rfl ?_
        refine R_getr hB (59) fl_X8_28 dX8_courtOf_34 rfl rfl ?_
        refine R_iload hB (j := 5) dX8_courtOf_37 rfl ?_
        refine R_iload hB (j := 0) dX8_courtOf_39 rfl ?_
        refine R_bipush hB dX8_courtOf_41 rfl ?_
        refine R_iushr hB (y1 % 4294967296 / 65536) (i_ush16 _) dX8_courtOf_43 ?_
        refine R_bipush hB dX8_courtOf_44 rfl ?_
        refine R_irem hB ((y1 % 4294967296 / 65536) % (50)) (i_ne0 (by omega) (by omega)) (i_rem (by omega) (by omega)) dX8_courtOf_46 ?_
        refine N_iast hB rfl (by omega) (by omega) dX8_courtOf_47 (fun σ4 e4 => ?_)
        refine R_ldcw hB dX8_courtOf_48 kc_X8_275 ?_
        refine R_iload hB (j := 0) dX8_courtOf_51 rfl ?_
        refine R_imul hB dX8_courtOf_53 ?_
        refine R_sipush hB dX8_courtOf_54 rfl ?_
        refine R_iadd hB dX8_courtOf_57 ?_
        refine R_nmi (fun y2 hy2 => ?_)
        refine R_istore hB (L' := [_, _, _, _, _, _]) dX8_courtOf_58 (Nat.le_of_ble_eq_true rfl) rfl ?_
        have hs2 : y2 = lcg (lcg (seedA x d.toNat)) := by rw [hy2, hs1]; rfl
        refine R_aload_n hB (j := 1) dX8_courtOf_60 rfl rfl ?_
        refine R_getr hB (60) fl_X8_31 dX8_courtOf_61 rfl rfl ?_
        refine R_iload hB (j := 5) dX8_courtOf_64 rfl ?_
        refine R_iload hB (j := 0) dX8_courtOf_66 rfl ?_
        refine R_bipush hB dX8_courtOf_68 rfl ?_
        refine R_iushr hB (y2 % 4294967296 / 65536) (i_ush16 _) dX8_courtOf_70 ?_
        refine R_bipush hB dX8_courtOf_71 rfl ?_
        refine R_irem hB ((y2 % 4294967296 / 65536) % (10)) (i_ne0 (by omega) (by omega)) (i_rem (by omega) (by omega)) dX8_courtOf_73 ?_
        refine N_iast hB rfl (by omega) (by omega) dX8_courtOf_74 (fun σ5 e5 => ?_)
        refine R_ldcw hB dX8_courtOf_75 kc_X8_275 ?_
        refine R_iload hB (j := 0) dX8_courtOf_78 rfl ?_
        refine R_imul hB dX8_courtOf_80 ?_
        refine R_sipush hB dX8_courtOf_81 rfl ?_
        refine R_iadd hB dX8_courtOf_84 ?_
        refine R_nmi (fun y3 hy3 => ?_)
        refine R_istore hB (L' := [_, _, _, _, _, _]) dX8_courtOf_85 (Nat.le_of_ble_eq_true rfl) rfl ?_
        have hs3 : y3 = lcg (lcg (lcg (seedA x d.toNat))) := by rw [hy3, hs2]; rfl
        refine R_aload_n hB (j := 1) dX8_courtOf_87 rfl rfl ?_
        refine R_getr hB (61) fl_X8_34 dX8_courtOf_88 rfl rfl ?_
        refine R_iload hB (j := 5) dX8_courtOf_91 rfl ?_
        refine R_iload hB (j := 0) dX8_courtOf_93 rfl ?_
        refine R_bipush hB dX8_courtOf_95 rfl ?_
        refine R_iushr hB (y3 % 4294967296 / 65536) (i_ush16 _) dX8_courtOf_97 ?_
        refine R_iconst hB dX8_courtOf_98 ?_
        refine R_irem hB ((y3 % 4294967296 / 65536) % (4)) (i_ne0 (by omega) (by omega)) (i_rem (by omega) (by omega)) dX8_courtOf_99 ?_
        refine N_iast hB rfl (by omega) (by omega) dX8_courtOf_100 (fun σ6 e6 => ?_)
        have l1 : y1 % 4294967296 / 65536 % 50 = crH x d := by rw [hs1]; rfl
        have l2 : y2 % 4294967296 / 65536 % 10 = crO x d := by rw [hs2]; rfl
        have l3 : y3 % 4294967296 / 65536 % 4 = crS x d := by rw [hs3]; rfl
        refine R_iinc hB (j := 5) (L' := [_, _, _, _, _, _]) dX8_courtOf_101 rfl (Nat.le_of_ble_eq_true rfl) rfl ?_
        refine R_goto hB 15 dX8_courtOf_104 rfl ?_
        exact R_sub [2, 3, 4, 5, 1, 0] rfl (ih_15 _ _ _ (by omega) (by omega) (by rw [show (d + 1).toNat = d.toNat + 1 by omega]; exact hs3) (fun i hi => by
          have hi2 := hi
          simp only [List.mem_cons, List.not_mem_nil, or_false, not_or] at hi2
          rw [e6, up_row hi2.2.2.2, e5, up_row hi2.2.2.1, e4, up_row hi2.2.1]; exact hS i hi) (fun k q => by rw [e6, up_i (by decide), e5, up_i (by decide), e4, up_i (by decide)]; exact h1k k q) (by rw [e6, up_i (by decide), e5, up_i (by decide), e4, up_i (by decide)]; exact h37) (fun i q1 q2 => by
          by_cases c : i = d
          · rw [c, e6, up_i (by decide), e5, up_i (by decide), e4, up_s, up_i (by decide), up_s, up_s]
            exact ⟨l1, l2, l3⟩
          · rw [e6, up_i (by decide), e5, up_i (by decide), e4, up_n (fun q => c q.2), up_i (by decide), up_n (fun q => c q.2), up_i (by decide), up_n (fun q => c q.2), up_i (by decide), up_i (by decide)]
            exact hen i q1 (by omega)))
  exact R_sub [2, 3, 4, 5, 1, 0] rfl (lp_15 _ _ _ _ (Nat.lt_succ_self _) (by omega) rfl S2 k2 m7 (fun i q1 q2 => by omega))

theorem s_mcourt {Θ : Th} {σ : Mem} (x n w : Int) (hnr : rng n) (hwr : rng w) (h : InvC σ) (hR : Rel σ) : Spc Θ M_X8_court 1 [.ref (Th.r Θ 1), .int (I x), .int (I n), .int (I w)] σ (fun r σ' => FrM σ σ' ∧ r = if (1 ≤ n ∧ n ≤ 8) ∧ (0 ≤ w ∧ w < 2) then (if w = 0 then crtP σ x n else crtM σ x n) else -2) := by
  refine Spc_of (by decide +kernel) (Nat.le_of_ble_eq_true rfl) (fun Γ hB hE => ?_)
  show Run Θ Γ 0 [(0, .ref (Th.r Θ 1)), (1, .int (I x)), (2, .int (I n)), (3, .int (I w))] [] σ
  refine R_iload_n hB (j := 2) dX8_court_0 rfl rfl ?_
  refine R_iconst hB dX8_court_1 ?_
  refine R_bipush hB dX8_court_2 rfl ?_
  refine P_cS1 hB (s_in _ _ _ (by omega) (by omega) (by omega)) ms_X8_98 (by decide) dX8_court_4 rfl rfl (Nat.le_of_ble_eq_true rfl) (fun z4 h4 => ?_)
  refine R_if_eq hB 29 (by rw [h4]; split <;> omega) dX8_court_7 rfl (fun h7 => ?_) (fun h7 => ?_)
  · have hc : ¬ (1 ≤ n ∧ n ≤ 8) := fun q => by
      rw [if_pos q] at h4
      omega
    refine R_bipush hB dX8_court_29 rfl ?_
    exact R_iret hB hE rfl dX8_court_31 (by
      first
      | exact ⟨h23.1, by rw [if_pos (by omega)]; exact h23.2⟩
      | exact ⟨FrM.rf, by rw [if_neg (by omega)]⟩)
  · have hc : 1 ≤ n ∧ n ≤ 8 := by
      by_cases q : 1 ≤ n ∧ n ≤ 8
      · exact q
      · rw [if_neg q] at h4; omega
    refine R_iload_n hB (j := 3) dX8_court_10 rfl rfl ?_
    refine R_iconst hB dX8_court_11 ?_
    refine R_iconst hB dX8_court_12 ?_
    refine P_cS1 hB (s_in _ _ _ (by omega) (by omega) (by omega)) ms_X8_98 (by decide) dX8_court_13 rfl rfl (Nat.le_of_ble_eq_true rfl) (fun z13 h13 => ?_)
    refine R_if_eq hB 29 (by rw [h13]; split <;> omega) dX8_court_16 rfl (fun h16 => ?_) (fun h16 => ?_)
    · have hd : ¬ (0 ≤ w ∧ w ≤ 1) := fun q => by
        rw [if_pos q] at h13
        omega
      refine R_bipush hB dX8_court_29 rfl ?_
      exact R_iret hB hE rfl dX8_court_31 (by
        first
        | exact ⟨h23.1, by rw [if_pos (by omega)]; exact h23.2⟩
        | exact ⟨FrM.rf, by rw [if_neg (by omega)]⟩)
    · have hd : 0 ≤ w ∧ w ≤ 1 := by
        by_cases q : 0 ≤ w ∧ w ≤ 1
        · exact q
        · rw [if_neg q] at h13; omega
      refine R_aload_n hB (j := 0) dX8_court_19 rfl rfl ?_
      refine R_iload_n hB (j := 1) dX8_court_20 rfl rfl ?_
      refine R_iload_n hB (j := 2) dX8_court_21 rfl rfl ?_
      refine R_iload_n hB (j := 3) dX8_court_22 rfl rfl ?_
      refine R_cV1 hB (s_courtOf x n w hc (by omega) h hR) mv_X8_279 rfl rfl (by decide) dX8_court_23 rfl rfl (Nat.le_of_ble_eq_true rfl) (fun z23 σ1 h23 => ?_)
      refine R_goto hB 31 dX8_court_26 rfl ?_
      exact R_iret hB hE rfl dX8_court_31 (by
        first
        | exact ⟨h23.1, by rw [if_pos (by omega)]; exact h23.2⟩
        | exact ⟨FrM.rf, by rw [if_neg (by omega)]⟩)
