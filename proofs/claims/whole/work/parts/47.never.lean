theorem s_comesOut {Θ : Th} {σ : Mem} (h : InvC σ) (hw : RowOK (σ 37) (σ 38) (σ 39) (σ 40) (σ 3 4)) : Spc Θ M_X7_comesOut 1 [.ref (Th.r Θ 0)] σ (fun r σ' => Same [5, 44, 45, 46, 47] σ σ' ∧ r = if cmB σ (σ 37) (σ 38) (σ 39) (σ 3 4).toNat (σ 4 3).toNat = true then 1 else 0) := by
  refine Spc_of (by decide +kernel) (Nat.le_of_ble_eq_true rfl) (fun Γ hB hE => ?_)
  show Run Θ Γ 0 [(0, .ref (Th.r Θ 0))] [] σ
  have hns := h.ns
  have hn := hw.1
  have hr := h.2.2.2.1
  have htl := h.2.2.2.2.1
  have htn := htl.1
  refine R_iconst hB dX7_comesOut_0 ?_
  refine R_istore_n hB (L' := [_, _]) dX7_comesOut_1 rfl (Nat.le_of_ble_eq_true rfl) rfl ?_
  have lp_2 : ∀ (n_2 : Nat) (t : Int) (σ1 : Mem), ((σ 4 3 - t).toNat) < n_2 → (0 ≤ t ∧ t ≤ σ 4 3) → (Same [5, 44, 45, 46, 47] σ σ1) → (cmB σ (σ 37) (σ 38) (σ 39) (σ 3 4).toNat t.toNat = true) → Run Θ Γ 2 [(0, .ref (Th.r Θ 0)), (1, .int (I t))] [] σ1 := by
    intro n_2
    induction n_2 with
    | zero => intro t σ1 h_m; exact absurd h_m (Nat.not_lt_zero _)
    | succ n_2 ih_2 =>
      intro t σ1 h_m ht hS hC
      have k0 : σ1 0 = σ 0 := hS 0 (by decide)
      have k3 : σ1 3 = σ 3 := hS 3 (by decide)
      have k4 : σ1 4 = σ 4 := hS 4 (by decide)
      have k25 : σ1 25 = σ 25 := hS 25 (by decide)
      have k37 : σ1 37 = σ 37 := hS 37 (by decide)
      have k38 : σ1 38 = σ 38 := hS 38 (by decide)
      have k39 : σ1 39 = σ 39 := hS 39 (by decide)
      have k40 : σ1 40 = σ 40 := hS 40 (by decide)
      have k41 : σ1 41 = σ 41 := hS 41 (by decide)
      have k42 : σ1 42 = σ 42 := hS 42 (by decide)
      have k43 : σ1 43 = σ 43 := hS 43 (by decide)
      refine R_iload_n hB (j := 1) dX7_comesOut_2 rfl rfl ?_
      refine R_aload_n hB (j := 0) dX7_comesOut_3 rfl rfl ?_
      refine R_getr hB (4) fl_X7_35 dX7_comesOut_4 rfl rfl ?_
      refine R_geti hB fl_X7_231 dX7_comesOut_7 rfl ?_
      refine R_icmp_ge hB 97 (by omega) (by rw [k4]; omega) dX7_comesOut_10 rfl (fun h10 => ?_) (fun h10 => ?_)
      · rw [k4] at h10
        refine R_iconst hB dX7_comesOut_97 ?_
        exact R_zret hB hE rfl (rfl) dX7_comesOut_98 (⟨hS, by rw [if_pos (by rw [show (σ 4 3).toNat = t.toNat by omega]; exact hC)]⟩)
      · rw [k4] at h10
        obtain ⟨w1, w2, w3⟩ := htl.2 t ht.1 h10
        have hs1 : cmB σ (σ 37) (σ 38) (σ 39) (σ 3 4).toNat (t.toNat + 1) = (cmB σ (σ 37) (σ 38) (σ 39) (σ 3 4).toNat t.toNat && (decide (σ 41 t < σ 0 2) && decide (cnL (σ (8 + (σ 41 t).toNat)) (σ 37) (σ 38) (σ 39) 3 (fun d => decide (σ 39 d = σ 42 t)) (evs (σ 37) (σ 3 4).toNat 50) (σ (8 + (σ 41 t).toNat) 1) = σ 43 t))) := by
          simp only [cmB, show ((t.toNat : Nat) : Int) = t by omega]
        have hfin : cmB σ (σ 37) (σ 38) (σ 39) (σ 3 4).toNat (t.toNat + 1) = false → cmB σ (σ 37) (σ 38) (σ 39) (σ 3 4).toNat (σ 4 3).toNat = false := fun q => by
          have := cmB_f q ((σ 4 3).toNat - (t.toNat + 1))
          rwa [show t.toNat + 1 + ((σ 4 3).toNat - (t.toNat + 1)) = (σ 4 3).toNat by omega] at this
        refine R_aload_n hB (j := 0) dX7_comesOut_13 rfl rfl ?_
        refine R_getr hB (4) fl_X7_35 dX7_comesOut_14 rfl rfl ?_
        refine R_getr hB (41) fl_X7_244 dX7_comesOut_17 rfl rfl ?_
        refine R_iload_n hB (j := 1) dX7_comesOut_20 rfl rfl ?_
        refine R_iald hB rfl (by omega) dX7_comesOut_21 ?_
        refine R_aload_n hB (j := 0) dX7_comesOut_22 rfl rfl ?_
        refine R_geti hB fl_X7_118 dX7_comesOut_23 rfl ?_
        refine R_icmp_lt hB 31 (by rw [k41]; omega) (by rw [k0]; omega) dX7_comesOut_26 rfl (fun h26 => ?_) (fun h26 => ?_)
        · rw [k41, k0] at h26
          have k8 : σ1 (8 + (σ 41 t).toNat) = σ (8 + (σ 41 t).toNat) := hS _ (by simp; omega)
          have hz := h.bed (s := (σ 41 t).toNat) (by omega)
          refine R_aload_n hB (j := 0) dX7_comesOut_31 rfl rfl ?_
          refine R_getr hB (5) fl_X7_56 dX7_comesOut_32 rfl rfl ?_
          refine R_aload_n hB (j := 0) dX7_comesOut_35 rfl rfl ?_
          refine R_getr hB (23) fl_X7_17 dX7_comesOut_36 rfl rfl ?_
          refine R_aload_n hB (j := 0) dX7_comesOut_39 rfl rfl ?_
          refine R_getr hB (4) fl_X7_35 dX7_comesOut_40 rfl rfl ?_
          refine R_getr hB (41) fl_X7_244 dX7_comesOut_43 rfl rfl ?_
          refine R_iload_n hB (j := 1) dX7_comesOut_46 rfl rfl ?_
          refine R_iald hB rfl (by omega) dX7_comesOut_47 ?_
          refine R_aald hB (8 + (σ 41 t).toNat) rfl (by decide) (by rw [k41]; omega) (by rw [k41]; rfl) dX7_comesOut_48 ?_
          refine R_aload_n hB (j := 0) dX7_comesOut_49 rfl rfl ?_
          refine R_getr hB (3) fl_X7_50 dX7_comesOut_50 rfl rfl ?_
          refine R_aload_n hB (j := 0) dX7_comesOut_53 rfl rfl ?_
          refine R_getr hB (25) fl_X7_28 dX7_comesOut_54 rfl rfl ?_
          refine R_cV0 hB (s_pass_3 (8 + (σ 41 t).toNat) (cls_bed (by omega)) (by rw [k8]; exact hz) (by rw [k37, k38, k39, k40, k3]; exact hw) (by rw [k25]; exact hr)) mv_X7_162 rfl rfl (by decide) dX7_comesOut_57 rfl rfl (Nat.le_of_ble_eq_true rfl) (fun σ2 h57 => ?_)
          rw [k8, k37, k38, k39, k40, k3, k25, hw.2.2] at h57
          obtain ⟨p1, p2, p3, p4, p5, p6⟩ := h57
          have l42 : σ2 42 = σ 42 := by rw [p1 42 (by decide), k42]
          have l43 : σ2 43 = σ 43 := by rw [p1 43 (by decide), k43]
          have hp4 := p4 (σ 42 t) w2.1 w2.2
          have hcb := cnL_in (z := σ (8 + (σ 41 t).toNat)) (hr := σ 37) (ho := σ 38) (so := σ 39) 3 (fun d => decide (σ 39 d = σ 42 t)) (evs (σ 37) (σ 3 4).toNat 50) (σ (8 + (σ 41 t).toNat) 1)
          rw [← hw.2.2, ordL_len, hw.2.2] at hcb
          have hS2 : Same [5, 44, 45, 46, 47] σ σ2 := hS.tr p1 (fun _ q => q) (fun _ q => q)
          refine R_aload_n hB (j := 0) dX7_comesOut_60 rfl rfl ?_
          refine R_getr hB (5) fl_X7_56 dX7_comesOut_61 rfl rfl ?_
          refine R_getr hB (47) fl_X7_247 dX7_comesOut_64 rfl rfl ?_
          refine R_aload_n hB (j := 0) dX7_comesOut_67 rfl rfl ?_
          refine R_getr hB (4) fl_X7_35 dX7_comesOut_68 rfl rfl ?_
          refine R_getr hB (42) fl_X7_250 dX7_comesOut_71 rfl rfl ?_
          refine R_iload_n hB (j := 1) dX7_comesOut_74 rfl rfl ?_
          refine R_iald hB rfl (by omega) dX7_comesOut_75 ?_
          refine R_iald hB rfl (by rw [l42]; omega) dX7_comesOut_76 ?_
          refine R_aload_n hB (j := 0) dX7_comesOut_77 rfl rfl ?_
          refine R_getr hB (4) fl_X7_35 dX7_comesOut_78 rfl rfl ?_
          refine R_getr hB (43) fl_X7_251 dX7_comesOut_81 rfl rfl ?_
          refine R_iload_n hB (j := 1) dX7_comesOut_84 rfl rfl ?_
          refine R_iald hB rfl (by omega) dX7_comesOut_85 ?_
          refine R_icmp_eq hB 91 (by rw [l42, hp4]; omega) (by rw [l43]; omega) dX7_comesOut_86 rfl (fun h86 => ?_) (fun h86 => ?_)
          · rw [l42, hp4, l43] at h86
            refine R_iinc hB (j := 1) (L' := [_, _]) dX7_comesOut_91 rfl (Nat.le_of_ble_eq_true rfl) rfl ?_
            refine R_goto hB 2 dX7_comesOut_94 rfl ?_
            exact R_sub [1, 0] rfl (ih_2 _ _ (by omega) (by omega) hS2 (by rw [show (t + 1).toNat = t.toNat + 1 by omega, hs1, hC]; simp only [Bool.true_and, Bool.and_eq_true, decide_eq_true_eq]; exact ⟨h26, h86⟩))
          · rw [l42, hp4, l43] at h86
            refine R_iconst hB dX7_comesOut_89 ?_
            exact R_zret hB hE rfl (rfl) dX7_comesOut_90 (⟨hS2, by rw [if_neg (by rw [hfin (by rw [hs1]; simp only [Bool.and_eq_false_iff, decide_eq_false_iff_not]; right; right; exact h86)]; decide)]⟩)
        · rw [k41, k0] at h26
          refine R_iconst hB dX7_comesOut_29 ?_
          exact R_zret hB hE rfl (rfl) dX7_comesOut_30 (⟨hS, by rw [if_neg (by rw [hfin (by rw [hs1]; simp only [Bool.and_eq_false_iff, decide_eq_false_iff_not]; right; left; omega)]; decide)]⟩)
  exact R_sub [1, 0] rfl (lp_2 _ _ _ (Nat.lt_succ_self _) (by omega) Same.rf rfl)

theorem s_never {Θ : Th} {σ : Mem} (h : InvC σ) : Spc Θ M_X7_never 1 [.ref (Th.r Θ 0)] σ (fun r σ' => Same SC σ σ' ∧ r = bsum (nvB σ) (σ 2 4).toNat) := by
  refine Spc_of (by decide +kernel) (Nat.le_of_ble_eq_true rfl) (fun Γ hB hE => ?_)
  show Run Θ Γ 0 [(0, .ref (Th.r Θ 0))] [] σ
  have hns := h.ns
  have hw := h.row
  have hn := hw.1
  have hr := h.2.2.2.1
  refine R_iconst hB dX7_never_0 ?_
  refine R_istore_n hB (L' := [_, _]) dX7_never_1 rfl (Nat.le_of_ble_eq_true rfl) rfl ?_
  refine R_iconst hB dX7_never_2 ?_
  refine R_istore_n hB (L' := [_, _, _]) dX7_never_3 rfl (Nat.le_of_ble_eq_true rfl) rfl ?_
  have lp_4 : ∀ (n_4 : Nat) (bi d : Int) (σ1 : Mem), ((σ 2 4 - d).toNat) < n_4 → (0 ≤ d ∧ d ≤ σ 2 4) → (Same SC σ σ1) → (bi = bsum (nvB σ) d.toNat) → Run Θ Γ 4 [(0, .ref (Th.r Θ 0)), (1, .int (I bi)), (2, .int (I d))] [] σ1 := by
    intro n_4
    induction n_4 with
    | zero => intro bi d σ1 h_m; exact absurd h_m (Nat.not_lt_zero _)
    | succ n_4 ih_4 =>
      intro bi d σ1 h_m hd hS hb
      have k2 : σ1 2 = σ 2 := hS 2 (by decide)
      have k33 : σ1 33 = σ 33 := hS 33 (by decide)
      have k34 : σ1 34 = σ 34 := hS 34 (by decide)
      have k35 : σ1 35 = σ 35 := hS 35 (by decide)
      have k36 : σ1 36 = σ 36 := hS 36 (by decide)
      refine R_iload_n hB (j := 2) dX7_never_4 rfl rfl ?_
      refine R_aload_n hB (j := 0) dX7_never_5 rfl rfl ?_
      refine R_getr hB (2) fl_X7_24 dX7_never_6 rfl rfl ?_
      refine R_geti hB fl_X7_140 dX7_never_9 rfl ?_
      refine R_icmp_ge hB 46 (by omega) (by rw [k2]; omega) dX7_never_12 rfl (fun h12 => ?_) (fun h12 => ?_)
      · rw [k2] at h12
        refine R_iload_n hB (j := 1) dX7_never_46 rfl rfl ?_
        exact R_iret hB hE rfl dX7_never_47 (⟨hS, by rw [hb]; congr 1; omega⟩)
      · rw [k2] at h12
        have hI := h.same hS
        refine R_aload_n hB (j := 0) dX7_never_15 rfl rfl ?_
        refine R_getr hB (3) fl_X7_50 dX7_never_16 rfl rfl ?_
        refine R_aload_n hB (j := 0) dX7_never_19 rfl rfl ?_
        refine R_getr hB (2) fl_X7_24 dX7_never_20 rfl rfl ?_
        refine R_iload_n hB (j := 2) dX7_never_23 rfl rfl ?_
        refine R_cV0 hB (s_dbecome d (by omega) (by rw [k33, k34, k35, k36, k2]; exact hw)) mv_X7_254 rfl rfl (by decide) dX7_never_24 rfl rfl (Nat.le_of_ble_eq_true rfl) (fun σ2 h24 => ?_)
        rw [k2] at h24
        simp only [k33, k34, k35] at h24
        obtain ⟨b1, b2, b3, b4⟩ := h24
        rw [if_pos (by omega)] at b2
        have hS2 : Same SC σ σ2 := hS.tr b1 (fun _ q => q) (by simp)
        have hI2 := h.same hS2
        refine R_aload_n hB (j := 0) dX7_never_27 rfl rfl ?_
        refine R_cV1 hB (s_comesOut hI2 b3) mv_X7_257 rfl rfl (by decide) dX7_never_28 rfl rfl (Nat.le_of_ble_eq_true rfl) (fun z28 σ3 h28 => ?_)
        obtain ⟨c1, c2⟩ := h28
        have hnv : z28 = if nvB σ d.toNat = true then 1 else 0 := by
          rw [c2, b2, hS2 4 (by decide)]
          unfold nvB
          rw [show ((d.toNat : Nat) : Int) = d by omega, show (σ 2 4 - 1).toNat = (σ 2 4).toNat - 1 by omega]
          rw [cmB_cg (σ := σ) (by rw [hS2 0 (by decide)]) hns.2 (hS2 41 (by decide)) (hS2 42 (by decide)) (hS2 43 (by decide)) (fun s hs => hS2 (8 + s) (by simp; omega)) (fun i q1 q2 => b4 i q1 (by omega))]
        have hbs := bsum_in (nvB σ) d.toNat
        have hp2 := p2_8 d.toNat (by omega)
        refine R_if_eq hB 40 (by rw [hnv]; split <;> omega) dX7_never_31 rfl (fun h31 => ?_) (fun h31 => ?_)
        · refine R_iinc hB (j := 2) (L' := [_, _, _]) dX7_never_40 rfl (Nat.le_of_ble_eq_true rfl) rfl ?_
          refine R_goto hB 4 dX7_never_43 rfl ?_
          exact R_sub [1, 2, 0] rfl (ih_4 _ _ _ (by omega) (by omega) (hS2.tr c1 (fun _ q => q) (by simp)) (by
            rw [show (d + 1).toNat = d.toNat + 1 by omega]
            simp only [bsum]
            rw [← hb]
            first
            | (rw [if_neg (fun q => by rw [if_pos q] at hnv; omega)]; omega)
            | (rw [if_pos (by by_cases q : nvB σ d.toNat = true; exact q; exact absurd (by rw [if_neg q] at hnv; exact hnv) h31)])))
        · refine R_iload_n hB (j := 1) dX7_never_34 rfl rfl ?_
          refine R_iconst hB dX7_never_35 ?_
          refine R_iload_n hB (j := 2) dX7_never_36 rfl rfl ?_
          refine R_ishl hB (2 ^ (d).toNat) (i_shl1z (by omega)) dX7_never_37 ?_
          refine R_ior hB ((bi) + 2 ^ (d).toNat) (i_oradd (by rw [hb]; exact hbs) (by omega)) dX7_never_38 ?_
          refine R_istore_n hB (L' := [_, _, _]) dX7_never_39 rfl (Nat.le_of_ble_eq_true rfl) rfl ?_
          refine R_iinc hB (j := 2) (L' := [_, _, _]) dX7_never_40 rfl (Nat.le_of_ble_eq_true rfl) rfl ?_
          refine R_goto hB 4 dX7_never_43 rfl ?_
          exact R_sub [2, 1, 0] rfl (ih_4 _ _ _ (by omega) (by omega) (hS2.tr c1 (fun _ q => q) (by simp)) (by
            rw [show (d + 1).toNat = d.toNat + 1 by omega]
            simp only [bsum]
            rw [← hb]
            first
            | (rw [if_neg (fun q => by rw [if_pos q] at hnv; omega)]; omega)
            | (rw [if_pos (by by_cases q : nvB σ d.toNat = true; exact q; exact absurd (by rw [if_neg q] at hnv; exact hnv) h31)])))
  exact R_sub [2, 1, 0] rfl (lp_4 _ _ _ _ (Nat.lt_succ_self _) (by omega) Same.rf rfl)

theorem s_place {Θ : Th} {σ : Mem} (d : Int) (hd : rng d) (h : InvC σ) : Spc Θ M_X7_place 1 [.ref (Th.r Θ 0), .int (I d)] σ (fun r σ' => Same SC σ σ' ∧ r = if 0 ≤ d ∧ d < σ 2 4 then bsum (plB σ d) 10 else -2) := by
  refine Spc_of (by decide +kernel) (Nat.le_of_ble_eq_true rfl) (fun Γ hB hE => ?_)
  show Run Θ Γ 0 [(0, .ref (Th.r Θ 0)), (1, .int (I d))] [] σ
  have hns := h.ns
  have hw := h.row
  have hn := hw.1
  have hr := h.2.2.2.1
  refine R_iload_n hB (j := 1) dX7_place_0 rfl rfl ?_
  refine R_aload_n hB (j := 0) dX7_place_1 rfl rfl ?_
  refine R_getr hB (2) fl_X7_24 dX7_place_2 rfl rfl ?_
  refine R_geti hB fl_X7_140 dX7_place_5 rfl ?_
  refine P_cS1 hB (s_within _ _ (by omega) (by omega)) ms_X7_89 (by decide) dX7_place_8 rfl rfl (Nat.le_of_ble_eq_true rfl) (fun z8 h8 => ?_)
  refine R_if_ne hB 17 (by rw [h8]; split <;> omega) dX7_place_11 rfl (fun h11 => ?_) (fun h11 => ?_)
  · have hy : 0 ≤ d ∧ d < σ 2 4 := by split at h8 <;> omega
    refine R_aload_n hB (j := 0) dX7_place_17 rfl rfl ?_
    refine R_getr hB (3) fl_X7_50 dX7_place_18 rfl rfl ?_
    refine R_aload_n hB (j := 0) dX7_place_21 rfl rfl ?_
    refine R_getr hB (2) fl_X7_24 dX7_place_22 rfl rfl ?_
    refine R_iconst hB dX7_place_25 ?_
    refine R_cV0 hB (s_dbecome (-1) (by omega) hw) mv_X7_254 rfl rfl (by decide) dX7_place_26 rfl rfl (Nat.le_of_ble_eq_true rfl) (fun σ2 h26 => ?_)
    obtain ⟨b1, b2, b3, b4⟩ := h26
    rw [if_neg (by omega)] at b2
    refine R_iconst hB dX7_place_29 ?_
    refine R_istore_n hB (L' := [_, _, _]) dX7_place_30 rfl (Nat.le_of_ble_eq_true rfl) rfl ?_
    refine R_iconst hB dX7_place_31 ?_
    refine R_istore_n hB (L' := [_, _, _, _]) dX7_place_32 rfl (Nat.le_of_ble_eq_true rfl) rfl ?_
    have lp_33 : ∀ (n_33 : Nat) (bi x : Int) (σ3 : Mem), ((10 - x).toNat) < n_33 → (0 ≤ x ∧ x ≤ 10) → (Same SC σ σ3) → (bi = bsum (plB σ d) x.toNat) → (σ3 3 4 = σ 2 4) → (∀ i, 0 ≤ i → i < σ 2 4 → σ3 37 i = σ 33 i ∧ (i ≠ d → σ3 38 i = σ 34 i) ∧ σ3 39 i = σ 35 i) → (ordL (σ3 40) (σ 2 4).toNat = evs (σ3 37) (σ 2 4).toNat 50) → Run Θ Γ 33 [(0, .ref (Th.r Θ 0)), (1, .int (I d)), (2, .int (I bi)), (3, .int (I x))] [] σ3 := by
      intro n_33
      induction n_33 with
      | zero => intro bi x σ3 h_m; exact absurd h_m (Nat.not_lt_zero _)
      | succ n_33 ih_33 =>
        intro bi x σ3 h_m hx hS hb g3 gen gord
        refine R_iload_n hB (j := 3) dX7_place_33 rfl rfl ?_
        refine R_bipush hB dX7_place_34 rfl ?_
        refine R_icmp_ge hB 68 (by omega) (by omega) dX7_place_36 rfl (fun h36 => ?_) (fun h36 => ?_)
        · have h10 : x = 10 := by omega
          subst h10
          refine R_iload_n hB (j := 2) dX7_place_68 rfl rfl ?_
          exact R_iret hB hE rfl dX7_place_69 (⟨hS, by rw [if_pos hy]; exact hb⟩)
        · refine R_aload_n hB (j := 0) dX7_place_39 rfl rfl ?_
          refine R_getr hB (3) fl_X7_50 dX7_place_40 rfl rfl ?_
          refine R_getr hB (38) fl_X7_148 dX7_place_43 rfl rfl ?_
          refine R_iload_n hB (j := 1) dX7_place_46 rfl rfl ?_
          refine R_iload_n hB (j := 3) dX7_place_47 rfl rfl ?_
          refine N_iast hB rfl (by omega) (by omega) dX7_place_48 (fun σ4 e4 => ?_)
          have hS4 : Same SC σ σ4 := hS.tr (S' := SC) (by rw [e4]; exact Same.up (by decide)) (fun _ q => q) (fun _ q => q)
          have hI4 := h.same hS4
          have g34 : σ4 3 4 = σ 2 4 := by rw [e4, up_row (by decide)]; exact g3
          have gw : ∀ i, 0 ≤ i → i < σ 2 4 → σ4 37 i = σ 33 i ∧ σ4 38 i = (if i = d then x else σ 34 i) ∧ σ4 39 i = σ 35 i := fun i q1 q2 => by
            obtain ⟨u1, u2, u3⟩ := gen i q1 q2
            rw [e4, up_row (show (37 : Nat) ≠ 38 by decide), up_row (show (39 : Nat) ≠ 38 by decide), u1, u3]
            refine ⟨rfl, ?_, rfl⟩
            by_cases c : i = d
            · rw [c, up_s, if_pos rfl]
            · rw [up_n (fun q => c q.2), u2 c, if_neg c]
          have hrow4 : RowOK (σ4 37) (σ4 38) (σ4 39) (σ4 40) (σ4 3 4) := by
            rw [g34]
            refine ⟨hn, fun i q1 q2 => ?_, ?_⟩
            · obtain ⟨u1, u2, u3⟩ := gw i q1 q2
              have := hw.2.1 i q1 q2
              rw [u1, u2, u3]
              refine ⟨this.1, ?_, this.2.2⟩
              split <;> omega
            · rw [e4, up_row (show (40 : Nat) ≠ 38 by decide), up_row (show (37 : Nat) ≠ 38 by decide)]
              exact gord
          refine R_aload_n hB (j := 0) dX7_place_49 rfl rfl ?_
          refine R_cV1 hB (s_comesOut hI4 hrow4) mv_X7_257 rfl rfl (by decide) dX7_place_50 rfl rfl (Nat.le_of_ble_eq_true rfl) (fun z50 σ5 h50 => ?_)
          obtain ⟨c1, c2⟩ := h50
          have hnv : z50 = if plB σ d x.toNat = true then 1 else 0 := by
            rw [c2, g34, hS4 4 (by decide)]
            unfold plB
            rw [show ((x.toNat : Nat) : Int) = x by omega]
            rw [cmB_cg (σ := σ) (by rw [hS4 0 (by decide)]) hns.2 (hS4 41 (by decide)) (hS4 42 (by decide)) (hS4 43 (by decide)) (fun s hs => hS4 (8 + s) (by simp; omega)) (fun i q1 q2 => gw i q1 (by omega))]
          have hbs := bsum_in (plB σ d) x.toNat
          have hp2 : (2 : Int) ^ x.toNat ≤ 512 := by
            have q : ∀ n : Nat, n < 10 → (2 : Int) ^ n ≤ 512 := by decide
            exact q _ (by omega)
          refine R_if_eq hB 62 (by rw [hnv]; split <;> omega) dX7_place_53 rfl (fun h53 => ?_) (fun h53 => ?_)
          · refine R_iinc hB (j := 3) (L' := [_, _, _, _]) dX7_place_62 rfl (Nat.le_of_ble_eq_true rfl) rfl ?_
            refine R_goto hB 33 dX7_place_65 rfl ?_
            exact R_sub [1, 2, 3, 0] rfl (ih_33 _ _ _ (by omega) (by omega) (hS4.tr c1 (fun _ q => q) (by simp)) (by
              rw [show (x + 1).toNat = x.toNat + 1 by omega]
              simp only [bsum]
              rw [← hb]
              first
              | (rw [if_neg (fun q => by rw [if_pos q] at hnv; omega)]; omega)
              | (rw [if_pos (by by_cases q : plB σ d x.toNat = true; exact q; exact absurd (by rw [if_neg q] at hnv; exact hnv) h53)])) (by rw [c1 3 (by decide)]; exact g34) (fun i q1 q2 => by
              have := gw i q1 q2
              rw [c1 37 (by decide), c1 38 (by decide), c1 39 (by decide)]
              exact ⟨this.1, fun c => by rw [this.2.1, if_neg c], this.2.2⟩) (by rw [c1 40 (by decide), c1 37 (by decide)]; have := hrow4.2.2; rw [g34] at this; exact this))
          · refine R_iload_n hB (j := 2) dX7_place_56 rfl rfl ?_
            refine R_iconst hB dX7_place_57 ?_
            refine R_iload_n hB (j := 3) dX7_place_58 rfl rfl ?_
            refine R_ishl hB (2 ^ (x).toNat) (i_shl1z (by omega)) dX7_place_59 ?_
            refine R_ior hB ((bi) + 2 ^ (x).toNat) (i_oradd (by rw [hb]; exact hbs) (by omega)) dX7_place_60 ?_
            refine R_istore_n hB (L' := [_, _, _, _]) dX7_place_61 rfl (Nat.le_of_ble_eq_true rfl) rfl ?_
            refine R_iinc hB (j := 3) (L' := [_, _, _, _]) dX7_place_62 rfl (Nat.le_of_ble_eq_true rfl) rfl ?_
            refine R_goto hB 33 dX7_place_65 rfl ?_
            exact R_sub [2, 3, 1, 0] rfl (ih_33 _ _ _ (by omega) (by omega) (hS4.tr c1 (fun _ q => q) (by simp)) (by
              rw [show (x + 1).toNat = x.toNat + 1 by omega]
              simp only [bsum]
              rw [← hb]
              first
              | (rw [if_neg (fun q => by rw [if_pos q] at hnv; omega)]; omega)
              | (rw [if_pos (by by_cases q : plB σ d x.toNat = true; exact q; exact absurd (by rw [if_neg q] at hnv; exact hnv) h53)])) (by rw [c1 3 (by decide)]; exact g34) (fun i q1 q2 => by
              have := gw i q1 q2
              rw [c1 37 (by decide), c1 38 (by decide), c1 39 (by decide)]
              exact ⟨this.1, fun c => by rw [this.2.1, if_neg c], this.2.2⟩) (by rw [c1 40 (by decide), c1 37 (by decide)]; have := hrow4.2.2; rw [g34] at this; exact this))
    exact R_sub [2, 3, 1, 0] rfl (lp_33 _ _ _ _ (Nat.lt_succ_self _) (by omega) (b1.wide (by simp)) rfl b2 (fun i q1 q2 => by
      have := b4 i q1 (by omega)
      rw [show phi (-1) i = i by unfold phi; rw [if_neg (by omega)]] at this
      exact ⟨this.1, fun _ => this.2.1, this.2.2⟩) (by have := b3.2.2; rw [b2] at this; exact this))
  · have hno : ¬ (0 ≤ d ∧ d < σ 2 4) := by split at h8 <;> omega
    refine R_bipush hB dX7_place_14 rfl ?_
    exact R_iret hB hE rfl dX7_place_16 (⟨Same.rf, by rw [if_neg hno]⟩)
