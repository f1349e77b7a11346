def cPr (σ : Mem) : Int := cnt (fun d : Nat => decide (σ 25 2 ≤ cnt (fun s => cTS σ s (d : Int)) (σ 0 2).toNat)) (σ 2 4).toNat
def cSm (σ : Mem) (f : Int) : Int := sumN (fun s => cnL (σ (8 + s)) (σ 33) (σ 34) (σ 35) f (fun _ => true) (evs (σ 33) (σ 2 4).toNat 50) (σ (8 + s) 1)) (σ 0 2).toNat
def cCt (σ : Mem) (w : Int) : Int := if w = 0 then σ 0 2 else if w = 1 then σ 2 4 else if w = 2 then σ 16 3 else if w = 3 then σ 17 3 else if w = 4 then cPr σ else if w = 5 then cSm σ 3 else if w = 6 then cSm σ 2 else if w = 7 then σ 4 3 else if w = 8 then σ 0 7 else -2

theorem s_count {Θ : Th} {σ : Mem} (w : Int) (hwr : rng w) (h : InvC σ) : Spc Θ M_X7_count 1 [.ref (Th.r Θ 0), .int (I w)] σ (fun r σ' => Same SC σ σ' ∧ r = cCt σ w) := by
  refine Spc_of (by decide +kernel) (Nat.le_of_ble_eq_true rfl) (fun Γ hB hE => ?_)
  show Run Θ Γ 0 [(0, .ref (Th.r Θ 0)), (1, .int (I w))] [] σ
  have hns := h.ns
  have hw := h.row
  have hn := hw.1
  have hr := h.2.2.2.1
  refine R_aload_n hB (j := 0) dX7_count_0 rfl rfl ?_
  refine R_aload_n hB (j := 0) dX7_count_1 rfl rfl ?_
  refine R_getr hB (2) fl_X7_24 dX7_count_2 rfl rfl ?_
  refine R_cV0 hB (s_hearAll_2 hns (fun s hs => h.bed hs) hw hr) mv_X7_185 rfl rfl (by decide) dX7_count_5 rfl rfl (Nat.le_of_ble_eq_true rfl) (fun σ1 h5 => ?_)
  rw [hw.2.2] at h5
  obtain ⟨j1, j2, j3, j4, j5⟩ := h5
  have k0 : σ1 0 = σ 0 := j1 0 (by decide)
  have k2 : σ1 2 = σ 2 := j1 2 (by decide)
  have k25 : σ1 25 = σ 25 := j1 25 (by decide)
  have h256 := p2_256 (σ 2 4).toNat (by omega)
  have hT : ∀ s : Nat, s < (σ 0 2).toNat → σ1 48 s = bsum (fun d : Nat => cTS σ s (d : Int)) (σ 2 4).toNat := fun s hs => j5 s (by omega)
  have ht : ∀ s, 0 ≤ s → s < σ1 6 1 → 0 ≤ σ1 48 s ∧ σ1 48 s < 256 := fun s q1 q2 => by
    have := hT s.toNat (by omega)
    rw [show ((s.toNat : Nat) : Int) = s by omega] at this
    have hb := bsum_in (fun d : Nat => cTS σ s.toNat (d : Int)) (σ 2 4).toNat
    omega
  refine R_iload_n hB (j := 1) dX7_count_8 rfl rfl ?_
  rcases (show ((w) < 0 ∨ 8 < (w)) ∨ (w) = 0 ∨ (w) = 1 ∨ (w) = 2 ∨ (w) = 3 ∨ (w) = 4 ∨ (w) = 5 ∨ (w) = 6 ∨ (w) = 7 ∨ (w) = 8 by omega) with h9 | h9 | h9 | h9 | h9 | h9 | h9 | h9 | h9 | h9
  · refine R_tsOut hB 131 (by omega) dX7_count_9 h9 rfl ?_
    refine R_bipush hB dX7_count_131 rfl ?_
    exact R_iret hB hE rfl dX7_count_133 (⟨j1.wide (by simp), by rw [cCt, if_neg (by omega), if_neg (by omega), if_neg (by omega), if_neg (by omega), if_neg (by omega), if_neg (by omega), if_neg (by omega), if_neg (by omega), if_neg (by omega)]⟩)
  · refine R_tsIn hB 0 60 (by omega) h9 dX7_count_9 (by decide) (by decide) rfl rfl ?_
    refine R_aload_n hB (j := 0) dX7_count_60 rfl rfl ?_
    refine R_geti hB fl_X7_118 dX7_count_61 rfl ?_
    exact R_iret hB hE rfl dX7_count_64 (⟨j1.wide (by simp), by rw [cCt, if_pos h9]; rw [k0]⟩)
  · refine R_tsIn hB 1 65 (by omega) h9 dX7_count_9 (by decide) (by decide) rfl rfl ?_
    refine R_aload_n hB (j := 0) dX7_count_65 rfl rfl ?_
    refine R_getr hB (2) fl_X7_24 dX7_count_66 rfl rfl ?_
    refine R_geti hB fl_X7_140 dX7_count_69 rfl ?_
    exact R_iret hB hE rfl dX7_count_72 (⟨j1.wide (by simp), by rw [cCt, if_neg (by omega), if_pos h9]; rw [k2]⟩)
  · refine R_tsIn hB 2 73 (by omega) h9 dX7_count_9 (by decide) (by decide) rfl rfl ?_
    refine R_aload_n hB (j := 0) dX7_count_73 rfl rfl ?_
    refine R_getr hB (22) fl_X7_9 dX7_count_74 rfl rfl ?_
    refine R_iconst hB dX7_count_77 ?_
    refine R_aald hB (16) rfl (by decide) (by omega) rfl dX7_count_78 ?_
    refine R_geti hB fl_X7_93 dX7_count_79 rfl ?_
    exact R_iret hB hE rfl dX7_count_82 (⟨j1.wide (by simp), by rw [cCt, if_neg (by omega), if_neg (by omega), if_pos h9]; rw [j1 16 (by decide)]⟩)
  · refine R_tsIn hB 3 83 (by omega) h9 dX7_count_9 (by decide) (by decide) rfl rfl ?_
    refine R_aload_n hB (j := 0) dX7_count_83 rfl rfl ?_
    refine R_getr hB (22) fl_X7_9 dX7_count_84 rfl rfl ?_
    refine R_iconst hB dX7_count_87 ?_
    refine R_aald hB (17) rfl (by decide) (by omega) rfl dX7_count_88 ?_
    refine R_geti hB fl_X7_93 dX7_count_89 rfl ?_
    exact R_iret hB hE rfl dX7_count_92 (⟨j1.wide (by simp), by rw [cCt, if_neg (by omega), if_neg (by omega), if_neg (by omega), if_pos h9]; rw [j1 17 (by decide)]⟩)
  · refine R_tsIn hB 4 93 (by omega) h9 dX7_count_9 (by decide) (by decide) rfl rfl ?_
    refine R_aload_n hB (j := 0) dX7_count_93 rfl rfl ?_
    refine R_aload_n hB (j := 0) dX7_count_94 rfl rfl ?_
    refine R_getr hB (2) fl_X7_24 dX7_count_95 rfl rfl ?_
    refine P_cV1 hB (s_provenOf_2 (by rw [k2]; exact hn) (by rw [k25]; exact hr) (by rw [j2]; exact hns) ht) mv_X7_221 rfl rfl (by decide) dX7_count_98 rfl rfl (Nat.le_of_ble_eq_true rfl) (fun z98 h98 => ?_)
    rw [k2, k25, j2] at h98
    have hP : z98 = cPr σ := by
      rw [h98]
      refine cnt_cg (fun d hd => ?_)
      rw [wit_cnt (σ := σ) hT hd]
    exact R_iret hB hE rfl dX7_count_101 (⟨j1.wide (by simp), by rw [cCt, if_neg (by omega), if_neg (by omega), if_neg (by omega), if_neg (by omega), if_pos h9]; exact hP⟩)
  · refine R_tsIn hB 5 102 (by omega) h9 dX7_count_9 (by decide) (by decide) rfl rfl ?_
    refine R_aload_n hB (j := 0) dX7_count_102 rfl rfl ?_
    refine R_getr hB (6) fl_X7_63 dX7_count_103 rfl rfl ?_
    refine R_geti hB fl_X7_292 dX7_count_106 rfl ?_
    exact R_iret hB hE rfl dX7_count_109 (⟨j1.wide (by simp), by rw [cCt, if_neg (by omega), if_neg (by omega), if_neg (by omega), if_neg (by omega), if_neg (by omega), if_pos h9]; exact j3⟩)
  · refine R_tsIn hB 6 110 (by omega) h9 dX7_count_9 (by decide) (by decide) rfl rfl ?_
    refine R_aload_n hB (j := 0) dX7_count_110 rfl rfl ?_
    refine R_getr hB (6) fl_X7_63 dX7_count_111 rfl rfl ?_
    refine R_geti hB fl_X7_324 dX7_count_114 rfl ?_
    exact R_iret hB hE rfl dX7_count_117 (⟨j1.wide (by simp), by rw [cCt, if_neg (by omega), if_neg (by omega), if_neg (by omega), if_neg (by omega), if_neg (by omega), if_neg (by omega), if_pos h9]; exact j4⟩)
  · refine R_tsIn hB 7 118 (by omega) h9 dX7_count_9 (by decide) (by decide) rfl rfl ?_
    refine R_aload_n hB (j := 0) dX7_count_118 rfl rfl ?_
    refine R_getr hB (4) fl_X7_35 dX7_count_119 rfl rfl ?_
    refine R_geti hB fl_X7_231 dX7_count_122 rfl ?_
    exact R_iret hB hE rfl dX7_count_125 (⟨j1.wide (by simp), by rw [cCt, if_neg (by omega), if_neg (by omega), if_neg (by omega), if_neg (by omega), if_neg (by omega), if_neg (by omega), if_neg (by omega), if_pos h9]; rw [j1 4 (by decide)]⟩)
  · refine R_tsIn hB 8 126 (by omega) h9 dX7_count_9 (by decide) (by decide) rfl rfl ?_
    refine R_aload_n hB (j := 0) dX7_count_126 rfl rfl ?_
    refine R_geti hB fl_X7_294 dX7_count_127 rfl ?_
    exact R_iret hB hE rfl dX7_count_130 (⟨j1.wide (by simp), by rw [cCt, if_neg (by omega), if_neg (by omega), if_neg (by omega), if_neg (by omega), if_neg (by omega), if_neg (by omega), if_neg (by omega), if_neg (by omega), if_pos h9]; rw [k0]⟩)

def cTSr (σ : Mem) (hr ho so : Int → Int) (n : Nat) (s : Nat) (d : Int) : Bool := tsL (σ (8 + s)) hr ho so (evs hr n 50) (σ (8 + s) 1) (σ 25 0) (σ 25 1) d
def crtP (σ : Mem) (x n : Int) : Int := cnt (fun d : Nat => decide (σ 25 2 ≤ cnt (fun s => cTSr σ (crH x) (crO x) (crS x) n.toNat s (d : Int)) (σ 0 2).toNat)) n.toNat
def crtM (σ : Mem) (x n : Int) : Int := sumN (fun s => cnL (σ (8 + s)) (crH x) (crO x) (crS x) 3 (fun _ => true) (evs (crH x) n.toNat 50) (σ (8 + s) 1)) (σ 0 2).toNat
theorem lotZ_in (x : Int) {n : Int} (hn : 0 < n) : 0 ≤ lotZ x n ∧ lotZ x n < n := ⟨Int.emod_nonneg _ (by omega), Int.emod_lt_of_pos _ hn⟩

theorem s_court {Θ : Th} {σ : Mem} (x n w : Int) (hxr : rng x) (hnr : rng n) (hwr : rng w) (h : InvC σ) : Spc Θ M_X7_court 1 [.ref (Th.r Θ 0), .int (I x), .int (I n), .int (I w)] σ (fun r σ' => Same SC σ σ' ∧ r = if (1 ≤ n ∧ n ≤ 8) ∧ (0 ≤ w ∧ w < 2) then (if w = 0 then crtP σ x n else crtM σ x n) else -2) := by
  refine Spc_of (by decide +kernel) (Nat.le_of_ble_eq_true rfl) (fun Γ hB hE => ?_)
  show Run Θ Γ 0 [(0, .ref (Th.r Θ 0)), (1, .int (I x)), (2, .int (I n)), (3, .int (I w))] [] σ
  have hns := h.ns
  have hw := h.row
  have hn := hw.1
  have hr := h.2.2.2.1
  refine R_iload_n hB (j := 2) dX7_court_0 rfl rfl ?_
  refine R_iconst hB dX7_court_1 ?_
  refine R_icmp_lt hB 19 (by omega) (by omega) dX7_court_2 rfl (fun h2 => ?_) (fun h2 => ?_)
  · have hno : ¬ ((1 ≤ n ∧ n ≤ 8) ∧ (0 ≤ w ∧ w < 2)) := by omega
    refine R_bipush hB dX7_court_19 rfl ?_
    exact R_iret hB hE rfl dX7_court_21 (⟨Same.rf, by rw [if_neg hno]⟩)
  · refine R_iload_n hB (j := 2) dX7_court_5 rfl rfl ?_
    refine R_bipush hB dX7_court_6 rfl ?_
    refine R_icmp_gt hB 19 (by omega) (by omega) dX7_court_8 rfl (fun h8 => ?_) (fun h8 => ?_)
    · have hno : ¬ ((1 ≤ n ∧ n ≤ 8) ∧ (0 ≤ w ∧ w < 2)) := by omega
      refine R_bipush hB dX7_court_19 rfl ?_
      exact R_iret hB hE rfl dX7_court_21 (⟨Same.rf, by rw [if_neg hno]⟩)
    · refine R_iload_n hB (j := 3) dX7_court_11 rfl rfl ?_
      refine R_iconst hB dX7_court_12 ?_
      refine P_cS1 hB (s_within _ _ (by omega) (by omega)) ms_X7_89 (by decide) dX7_court_13 rfl rfl (Nat.le_of_ble_eq_true rfl) (fun z13 h13 => ?_)
      refine R_if_ne hB 22 (by rw [h13]; split <;> omega) dX7_court_16 rfl (fun h16 => ?_) (fun h16 => ?_)
      · have hz : 0 ≤ w ∧ w < 2 := by split at h13 <;> omega
        refine R_aload_n hB (j := 0) dX7_court_22 rfl rfl ?_
        refine R_getr hB (3) fl_X7_50 dX7_court_23 rfl rfl ?_
        refine R_iconst hB dX7_court_26 ?_
        refine N_puti hB fp_X7_140 dX7_court_27 rfl (by omega) (fun σ0 e0 => ?_)
        refine R_iload_n hB (j := 1) dX7_court_30 rfl rfl ?_
        refine R_istore hB (L' := [_, _, _, _, _]) dX7_court_31 (Nat.le_of_ble_eq_true rfl) rfl ?_
        refine R_iconst hB dX7_court_33 ?_
        refine R_istore hB (L' := [_, _, _, _, _, _]) dX7_court_34 (Nat.le_of_ble_eq_true rfl) rfl ?_
        have lp_36 : ∀ (n_36 : Nat) (sd d : Int) (σ1 : Mem), ((n - d).toNat) < n_36 → (0 ≤ d ∧ d ≤ n) → (sd = seedA x d.toNat) → (Same SC σ σ1) → (σ1 3 4 = d) → (RowOK (σ1 37) (σ1 38) (σ1 39) (σ1 40) (σ1 3 4)) → (∀ i, 0 ≤ i → i < d → σ1 37 i = crH x i ∧ σ1 38 i = crO x i ∧ σ1 39 i = crS x i) → Run Θ Γ 36 [(0, .ref (Th.r Θ 0)), (1, .int (I x)), (2, .int (I n)), (3, .int (I w)), (4, .int (I sd)), (5, .int (I d))] [] σ1 := by
          intro n_36
          induction n_36 with
          | zero => intro sd d σ1 h_m; exact absurd h_m (Nat.not_lt_zero _)
          | succ n_36 ih_36 =>
            intro sd d σ1 h_m hd hsd hS h34 hrow hen
            refine R_iload hB (j := 5) dX7_court_36 rfl ?_
            refine R_iload_n hB (j := 2) dX7_court_38 rfl rfl ?_
            refine R_icmp_ge hB 100 (by omega) (by omega) dX7_court_39 rfl (fun h39 => ?_) (fun h39 => ?_)
            · have hdn : d = n := by omega
              subst hdn
              have hI := h.same hS
              have k8 : ∀ s : Nat, s < 8 → σ1 (8 + s) = σ (8 + s) := fun s hs => hS _ (by simp; omega)
              have k0 : σ1 0 = σ 0 := hS 0 (by decide)
              have k25 : σ1 25 = σ 25 := hS 25 (by decide)
              refine R_aload_n hB (j := 0) dX7_court_100 rfl rfl ?_
              refine R_aload_n hB (j := 0) dX7_court_101 rfl rfl ?_
              refine R_getr hB (3) fl_X7_50 dX7_court_102 rfl rfl ?_
              refine R_cV0 hB (s_hearAll_3 hI.ns (fun s hs => hI.bed hs) hrow hI.2.2.2.1) mv_X7_185 rfl rfl (by decide) dX7_court_105 rfl rfl (Nat.le_of_ble_eq_true rfl) (fun σ3 h105 => ?_)
              rw [hrow.2.2, h34] at h105
              obtain ⟨j1, j2, j3, j4, j5⟩ := h105
              have ev : evs (σ1 37) d.toNat 50 = evs (crH x) d.toNat 50 := evs_cg (fun i q1 q2 => (hen i q1 (by omega)).1) 50
              have m25 : σ3 25 = σ 25 := by rw [j1 25 (by decide), k25]
              have m3 : σ3 3 4 = d := by rw [j1 3 (by decide), h34]
              rw [k0] at j2
              have h256 := p2_256 d.toNat (by omega)
              have hT : ∀ s : Nat, s < (σ 0 2).toNat → σ3 48 s = bsum (fun i : Nat => cTSr σ (crH x) (crO x) (crS x) d.toNat s (i : Int)) d.toNat := fun s hs => by
                rw [j5 s (by rw [k0]; omega)]
                refine bsum_cg (fun i hi => ?_)
                rw [k8 s (by omega), k25, ev]
                exact tsL_cg ⟨rfl, rfl, rfl, rfl⟩ (fun e he => by have := (evs_mem.mp he).1; exact hen e this.1 (by omega)) _ _ _ (hen i (by omega) (by omega)).1
              have ht : ∀ s, 0 ≤ s → s < σ3 6 1 → 0 ≤ σ3 48 s ∧ σ3 48 s < 256 := fun s q1 q2 => by
                have := hT s.toNat (by omega)
                rw [show ((s.toNat : Nat) : Int) = s by omega] at this
                have hb := bsum_in (fun i : Nat => cTSr σ (crH x) (crO x) (crS x) d.toNat s.toNat (i : Int)) d.toNat
                omega
              have hS3 : Same SC σ σ3 := hS.tr j1 (fun _ q => q) (by simp)
              refine R_iload_n hB (j := 3) dX7_court_108 rfl rfl ?_
              refine R_if_ne hB 123 (by omega) dX7_court_109 rfl (fun h109 => ?_) (fun h109 => ?_)
              · refine R_aload_n hB (j := 0) dX7_court_123 rfl rfl ?_
                refine R_getr hB (6) fl_X7_63 dX7_court_124 rfl rfl ?_
                refine R_geti hB fl_X7_292 dX7_court_127 rfl ?_
                exact R_iret hB hE rfl dX7_court_130 (⟨hS3, by
                  rw [if_pos (by omega)]
                  first
                  | (rw [if_pos h109]; exact hP)
                  | (rw [if_neg h109, j3, k0]
                     refine sumN_cg (fun s hs => ?_)
                     rw [k8 s (by omega), ev]
                     have := (night_map (z := σ (8 + s)) (z' := σ (8 + s)) (hr := crH x) (hr' := σ1 37) (ho := crO x) (ho' := σ1 38) (so := crS x) (so' := σ1 39) (fun e => e) (es := evs (crH x) d.toNat 50) ⟨rfl, rfl, rfl, rfl⟩ (fun e he => by have := (evs_mem.mp he).1; exact hen e this.1 (by omega)) (σ (8 + s) 1)).2 3 (fun _ => true) (fun _ => true) (fun _ _ => rfl)
                     rw [this]; simp)⟩)
              · refine R_aload_n hB (j := 0) dX7_court_112 rfl rfl ?_
                refine R_aload_n hB (j := 0) dX7_court_113 rfl rfl ?_
                refine R_getr hB (3) fl_X7_50 dX7_court_114 rfl rfl ?_
                refine P_cV1 hB (s_provenOf_3 (by rw [m3]; omega) (by rw [m25]; exact hr) (by rw [j2]; exact hns) ht) mv_X7_221 rfl rfl (by decide) dX7_court_117 rfl rfl (Nat.le_of_ble_eq_true rfl) (fun z117 h117 => ?_)
                rw [m3, m25, j2] at h117
                have hP : z117 = crtP σ x d := by
                  rw [h117]
                  refine cnt_cg (fun i hi => ?_)
                  rw [wit_cnt (σ := σ) hT hi]
                refine R_goto hB 130 dX7_court_120 rfl ?_
                exact R_iret hB hE rfl dX7_court_130 (⟨hS3, by
                  rw [if_pos (by omega)]
                  first
                  | (rw [if_pos h109]; exact hP)
                  | (rw [if_neg h109, j3, k0]
                     refine sumN_cg (fun s hs => ?_)
                     rw [k8 s (by omega), ev]
                     have := (night_map (z := σ (8 + s)) (z' := σ (8 + s)) (hr := crH x) (hr' := σ1 37) (ho := crO x) (ho' := σ1 38) (so := crS x) (so' := σ1 39) (fun e => e) (es := evs (crH x) d.toNat 50) ⟨rfl, rfl, rfl, rfl⟩ (fun e he => by have := (evs_mem.mp he).1; exact hen e this.1 (by omega)) (σ (8 + s) 1)).2 3 (fun _ => true) (fun _ => true) (fun _ _ => rfl)
                     rw [this]; simp)⟩)
            · refine R_iload hB (j := 4) dX7_court_42 rfl ?_
              refine P_cS1 hB (s_nextSeed _) ms_X7_286 (by decide) dX7_court_44 rfl rfl (Nat.le_of_ble_eq_true rfl) (fun z44 h44 => ?_)
              have hs1 : z44 = lcg (seedA x d.toNat) := by rw [h44, hsd]; rfl
              refine R_istore hB (L' := [_, _, _, _, _, _]) dX7_court_47 (Nat.le_of_ble_eq_true rfl) rfl ?_
              refine R_iload hB (j := 0) dX7_court_49 rfl ?_
              refine P_cS1 hB (s_nextSeed _) ms_X7_286 (by decide) dX7_court_51 rfl rfl (Nat.le_of_ble_eq_true rfl) (fun z51 h51 => ?_)
              have hs2 : z51 = lcg (lcg (seedA x d.toNat)) := by rw [h51, hs1]; rfl
              refine R_istore hB (L' := [_, _, _, _, _, _, _]) dX7_court_54 (Nat.le_of_ble_eq_true rfl) rfl ?_
              refine R_iload hB (j := 0) dX7_court_56 rfl ?_
              refine P_cS1 hB (s_nextSeed _) ms_X7_286 (by decide) dX7_court_58 rfl rfl (Nat.le_of_ble_eq_true rfl) (fun z58 h58 => ?_)
              have hs3 : z58 = lcg (lcg (lcg (seedA x d.toNat))) := by rw [h58, hs2]; rfl
              refine R_istore hB (L' := [_, _, _, _, _, _, _, _]) dX7_court_61 (Nat.le_of_ble_eq_true rfl) rfl ?_
              refine R_aload_n hB (j := 3) dX7_court_63 rfl rfl ?_
              refine R_getr hB (3) fl_X7_50 dX7_court_64 rfl rfl ?_
              refine R_iload hB (j := 2) dX7_court_67 rfl ?_
              refine R_bipush hB dX7_court_69 rfl ?_
              refine P_cS1 hB (s_lot _ _ (by omega)) ms_X7_289 (by decide) dX7_court_71 rfl rfl (Nat.le_of_ble_eq_true rfl) (fun z71 h71 => ?_)
              have hl1 : z71 = crH x d := by rw [h71, hs1]; rfl
              have hb1 := lotZ_in (lcg (seedA x d.toNat)) (n := 50) (by decide)
              have hb1 : 0 ≤ crH x d ∧ crH x d < 50 := hb1
              refine R_iload hB (j := 1) dX7_court_74 rfl ?_
              refine R_bipush hB dX7_court_76 rfl ?_
              refine P_cS1 hB (s_lot _ _ (by omega)) ms_X7_289 (by decide) dX7_court_78 rfl rfl (Nat.le_of_ble_eq_true rfl) (fun z78 h78 => ?_)
              have hl2 : z78 = crO x d := by rw [h78, hs2]; rfl
              have hb2 := lotZ_in (lcg (lcg (seedA x d.toNat))) (n := 10) (by decide)
              have hb2 : 0 ≤ crO x d ∧ crO x d < 10 := hb2
              refine R_iload hB (j := 0) dX7_court_81 rfl ?_
              refine R_iconst hB dX7_court_83 ?_
              refine P_cS1 hB (s_lot _ _ (by omega)) ms_X7_289 (by decide) dX7_court_84 rfl rfl (Nat.le_of_ble_eq_true rfl) (fun z84 h84 => ?_)
              have hl3 : z84 = crS x d := by rw [h84, hs3]; rfl
              have hb3 := lotZ_in (lcg (lcg (lcg (seedA x d.toNat)))) (n := 4) (by decide)
              have hb3 : 0 ≤ crS x d ∧ crS x d < 4 := hb3
              refine R_cV0 hB (s_dadd_3 _ _ _ (by omega) (by omega) (by omega) hrow (by omega)) mv_X7_141 rfl rfl (by decide) dX7_court_87 rfl rfl (Nat.le_of_ble_eq_true rfl) (fun σ2 h87 => ?_)
              obtain ⟨j1, j2, j3, j4, j5, j6⟩ := h87
              rw [h34] at j2 j3 j4 j5
              refine R_iload hB (j := 0) dX7_court_90 rfl ?_
              refine R_istore hB (L' := [_, _, _, _, _, _, _, _]) dX7_court_92 (Nat.le_of_ble_eq_true rfl) rfl ?_
              refine R_iinc hB (j := 7) (L' := [_, _, _, _, _, _, _, _]) dX7_court_94 rfl (Nat.le_of_ble_eq_true rfl) rfl ?_
              refine R_goto hB 36 dX7_court_97 rfl ?_
              exact R_sub [4, 5, 6, 7, 1, 0] rfl (ih_36 _ _ _ (by omega) (by omega) (by rw [show (d + 1).toNat = d.toNat + 1 by omega]; exact hs3) (hS.tr j1 (fun _ q => q) (by simp)) j2 j6 (fun i q1 q2 => by
                rw [j3, j4, j5]
                by_cases c : i = d
                · rw [if_pos c, if_pos c, if_pos c, hl1, hl2, hl3, c]
                  exact ⟨rfl, rfl, rfl⟩
                · rw [if_neg c, if_neg c, if_neg c]
                  exact hen i q1 (by omega)))
        exact R_sub [2, 3, 4, 5, 1, 0] rfl (lp_36 _ _ _ _ (Nat.lt_succ_self _) (by omega) rfl (by rw [e0]; exact Same.up (by decide)) (by rw [e0, up_s]) (by rw [e0, up_s]; exact row_0 _ _ _ _) (fun i q1 q2 => by omega))
      · have hno : ¬ ((1 ≤ n ∧ n ≤ 8) ∧ (0 ≤ w ∧ w < 2)) := by split at h13 <;> omega
        refine R_bipush hB dX7_court_19 rfl ?_
        exact R_iret hB hE rfl dX7_court_21 (⟨Same.rf, by rw [if_neg hno]⟩)
