theorem row_0 (hr ho so od : Int → Int) : RowOK hr ho so od 0 := by
  refine ⟨by omega, fun d q1 q2 => by omega, ?_⟩
  have : ∀ h, evs hr 0 h = [] := by
    intro h
    induction h with
    | zero => rfl
    | succ h ih => rw [evs, ih]; simp [evH, ordL]
  rw [show (0 : Int).toNat = 0 from rfl, this]
  simp [ordL]

theorem s_makeBeds {Θ : Th} {σ : Mem} (hx : TxOK σ) : Spc Θ M_X7_makeBeds 0 [.ref (Th.r Θ 0), .ref (Th.r Θ 16)] σ (fun _ σ' => Same [0, 8, 9, 10, 11, 12, 13, 14, 15] σ σ' ∧ (∀ k, k ≠ 2 → σ' 0 k = σ 0 k) ∧ SlOK σ') := by
  refine Spc_of (by decide +kernel) (Nat.le_of_ble_eq_true rfl) (fun Γ hB hE => ?_)
  show Run Θ Γ 0 [(0, .ref (Th.r Θ 0)), (1, .ref (Th.r Θ 16))] [] σ
  have hb := hx.2.1.1
  have hn := hx.1.1
  refine R_aload_n hB (j := 0) dX7_makeBeds_0 rfl rfl ?_
  refine R_aload_n hB (j := 1) dX7_makeBeds_1 rfl rfl ?_
  refine P_cV1 hB (s_units_0 hx.1.1 hx.2.1.1 hx.2.2.1) mv_X7_115 rfl rfl (by decide) dX7_makeBeds_2 rfl rfl (Nat.le_of_ble_eq_true rfl) (fun z2 h2 => ?_)
  obtain ⟨f, hf, hu⟩ := h2
  have hu : z2 = unP f (σ 16 3) := hu
  have hun := unP_in (t := 0) (b := σ 29) (f := f) hn
  refine N_puti hB fp_X7_118 dX7_makeBeds_5 rfl (by omega) (fun σ1 e1 => ?_)
  refine R_iconst hB dX7_makeBeds_8 ?_
  refine R_istore_n hB (L' := [_, _, _]) dX7_makeBeds_9 rfl (Nat.le_of_ble_eq_true rfl) rfl ?_
  have lp_10 : ∀ (n_10 : Nat) (s : Int) (σ2 : Mem), ((unP f (σ 16 3) - s).toNat) < n_10 → (0 ≤ s ∧ s ≤ unP f (σ 16 3)) → (Same [0, 8, 9, 10, 11, 12, 13, 14, 15] σ σ2) → (∀ k, k ≠ 2 → σ2 0 k = σ 0 k) → (σ2 0 2 = unP f (σ 16 3)) → (∀ j : Nat, (j : Int) < s → σ2 (8 + j) 0 = σ 29 (j * 5) - 48 ∧ σ2 (8 + j) 1 = σ 29 (j * 5 + 1) - 48 ∧ σ2 (8 + j) 2 = σ 29 (j * 5 + 2) - 48 ∧ σ2 (8 + j) 3 = ixT 0 (σ 29 (j * 5 + 3))) → Run Θ Γ 10 [(0, .ref (Th.r Θ 0)), (1, .ref (Th.r Θ 16)), (2, .int (I s))] [] σ2 := by
    intro n_10
    induction n_10 with
    | zero => intro s σ2 h_m; exact absurd h_m (Nat.not_lt_zero _)
    | succ n_10 ih_10 =>
      intro s σ2 h_m hs hS h0k h02 hbd
      refine R_iload_n hB (j := 2) dX7_makeBeds_10 rfl rfl ?_
      refine R_aload_n hB (j := 0) dX7_makeBeds_11 rfl rfl ?_
      refine R_geti hB fl_X7_118 dX7_makeBeds_12 rfl ?_
      refine R_icmp_ge hB 83 (by omega) (by rw [h02]; omega) dX7_makeBeds_15 rfl (fun h15 => ?_) (fun h15 => ?_)
      · rw [h02] at h15
        exact R_vret hB hE rfl dX7_makeBeds_83 (by
          refine ⟨hS, h0k, f, ?_, ?_, fun j hj => ?_⟩
          · rw [hS 29 (by decide), hS 16 (by decide)]; exact hf
          · rw [h02, hS 16 (by decide)]
          · rw [h02] at hj
            have := hbd j (by omega)
            rw [hS 29 (by decide)]
            exact this)
      · rw [h02] at h15
        obtain ⟨hf1, hlt, g0, g1, g2, g3⟩ := unP_fit hf hn (s := s) hs.1 (by omega)
        have c29 : σ2 29 = σ 29 := hS 29 (by decide)
        have k0 : gr 0 0 = 9 := rfl
        have k1 : gr 0 1 = 9 := rfl
        have k2 : gr 0 2 = 3 := rfl
        have k3 := ixT_in 0 (σ 29 (s * 5 + 3))
        have b3 := hb (s * 5 + 3) (by omega) (by omega)
        have o8 : 8 ≤ 8 + s.toNat ∧ 8 + s.toNat ≤ 15 := by omega
        have ob : 8 + s.toNat ∈ ([0, 8, 9, 10, 11, 12, 13, 14, 15] : List Nat) := by simp; omega
        refine R_aload_n hB (j := 0) dX7_makeBeds_18 rfl rfl ?_
        refine R_getr hB (23) fl_X7_17 dX7_makeBeds_19 rfl rfl ?_
        refine R_iload_n hB (j := 2) dX7_makeBeds_22 rfl rfl ?_
        refine R_aald hB (8 + (s).toNat) rfl (by decide) (by omega) rfl dX7_makeBeds_23 ?_
        refine R_aload_n hB (j := 1) dX7_makeBeds_24 rfl rfl ?_
        refine R_iload_n hB (j := 2) dX7_makeBeds_25 rfl rfl ?_
        refine R_iconst hB dX7_makeBeds_26 ?_
        refine P_cV1 hB (s_figure_0 s 0 (by omega)) mv_X7_121 rfl rfl (by decide) dX7_makeBeds_27 rfl rfl (Nat.le_of_ble_eq_true rfl) (fun z27 h27 => ?_)
        rw [c29] at h27
        rw [Int.add_zero] at h27
        refine N_puti hB fp_X7_124 dX7_makeBeds_30 (cls_bed (by omega)) (by omega) (fun σ3 e3 => ?_)
        have c3 : σ3 29 = σ 29 := by rw [e3, up_row (by omega), c29]
        refine R_aload_n hB (j := 0) dX7_makeBeds_33 rfl rfl ?_
        refine R_getr hB (23) fl_X7_17 dX7_makeBeds_34 rfl rfl ?_
        refine R_iload_n hB (j := 2) dX7_makeBeds_37 rfl rfl ?_
        refine R_aald hB (8 + (s).toNat) rfl (by decide) (by omega) rfl dX7_makeBeds_38 ?_
        refine R_aload_n hB (j := 1) dX7_makeBeds_39 rfl rfl ?_
        refine R_iload_n hB (j := 2) dX7_makeBeds_40 rfl rfl ?_
        refine R_iconst hB dX7_makeBeds_41 ?_
        refine P_cV1 hB (s_figure_0 s 1 (by omega)) mv_X7_121 rfl rfl (by decide) dX7_makeBeds_42 rfl rfl (Nat.le_of_ble_eq_true rfl) (fun z42 h42 => ?_)
        rw [c3] at h42
        refine N_puti hB fp_X7_127 dX7_makeBeds_45 (cls_bed (by omega)) (by omega) (fun σ4 e4 => ?_)
        have c4 : σ4 29 = σ 29 := by rw [e4, up_row (by omega), c3]
        refine R_aload_n hB (j := 0) dX7_makeBeds_48 rfl rfl ?_
        refine R_getr hB (23) fl_X7_17 dX7_makeBeds_49 rfl rfl ?_
        refine R_iload_n hB (j := 2) dX7_makeBeds_52 rfl rfl ?_
        refine R_aald hB (8 + (s).toNat) rfl (by decide) (by omega) rfl dX7_makeBeds_53 ?_
        refine R_aload_n hB (j := 1) dX7_makeBeds_54 rfl rfl ?_
        refine R_iload_n hB (j := 2) dX7_makeBeds_55 rfl rfl ?_
        refine R_iconst hB dX7_makeBeds_56 ?_
        refine P_cV1 hB (s_figure_0 s 2 (by omega)) mv_X7_121 rfl rfl (by decide) dX7_makeBeds_57 rfl rfl (Nat.le_of_ble_eq_true rfl) (fun z57 h57 => ?_)
        rw [c4] at h57
        refine N_puti hB fp_X7_130 dX7_makeBeds_60 (cls_bed (by omega)) (by omega) (fun σ5 e5 => ?_)
        have c5 : σ5 29 = σ 29 := by rw [e5, up_row (by omega), c4]
        refine R_aload_n hB (j := 0) dX7_makeBeds_63 rfl rfl ?_
        refine R_getr hB (23) fl_X7_17 dX7_makeBeds_64 rfl rfl ?_
        refine R_iload_n hB (j := 2) dX7_makeBeds_67 rfl rfl ?_
        refine R_aald hB (8 + (s).toNat) rfl (by decide) (by omega) rfl dX7_makeBeds_68 ?_
        refine R_aload_n hB (j := 1) dX7_makeBeds_69 rfl rfl ?_
        refine R_iload_n hB (j := 2) dX7_makeBeds_70 rfl rfl ?_
        refine P_cV1 hB (s_letter_0 s (by omega) (by rw [c5]; exact b3)) mv_X7_133 rfl rfl (by decide) dX7_makeBeds_71 rfl rfl (Nat.le_of_ble_eq_true rfl) (fun z71 h71 => ?_)
        rw [c5] at h71
        refine N_puti hB fp_X7_137 dX7_makeBeds_74 (cls_bed (by omega)) (by omega) (fun σ6 e6 => ?_)
        have hrow : ∀ i, i ≠ 8 + s.toNat → σ6 i = σ2 i := fun i hi => by rw [e6, up_row hi, e5, up_row hi, e4, up_row hi, e3, up_row hi]
        refine R_iinc hB (j := 2) (L' := [_, _, _]) dX7_makeBeds_77 rfl (Nat.le_of_ble_eq_true rfl) rfl ?_
        refine R_goto hB 10 dX7_makeBeds_80 rfl ?_
        exact R_sub [1, 2, 0] rfl (ih_10 _ _ (by omega) (by omega) (fun i hi => by rw [hrow i (fun q => hi (q ▸ ob)), hS i hi]) (fun k hk => by rw [hrow 0 (by omega), h0k k hk]) (by rw [hrow 0 (by omega), h02]) (fun j hj => by
          by_cases c : (j : Int) = s
          · have cj : j = s.toNat := by omega
            subst cj
            rw [c, e6, e5, e4, e3, h27, h42, h57, h71]
            simp [up]
          · rw [hrow (8 + j) (by omega)]
            exact hbd j (by omega)))
  exact R_sub [1, 2, 0] rfl (lp_10 _ _ _ (Nat.lt_succ_self _) (by omega) (by rw [e1]; exact Same.up (by decide)) (fun k hk => by rw [e1]; exact up_n (fun q => hk q.2)) (by rw [e1, up_s, hu]) (fun j hj => by omega))

theorem s_tellDeeds {Θ : Th} {σ : Mem} (hx : TxOK σ) : Spc Θ M_X7_tellDeeds 0 [.ref (Th.r Θ 0), .ref (Th.r Θ 17)] σ (fun _ σ' => Same [2, 33, 34, 35, 36] σ σ' ∧ DdOK σ') := by
  refine Spc_of (by decide +kernel) (Nat.le_of_ble_eq_true rfl) (fun Γ hB hE => ?_)
  show Run Θ Γ 0 [(0, .ref (Th.r Θ 0)), (1, .ref (Th.r Θ 17))] [] σ
  have hb := hx.2.1.2
  have hn := hx.1.2
  refine R_aload_n hB (j := 1) dX7_tellDeeds_0 rfl rfl ?_
  refine P_cV1 hB (s_units_1 hx.1.2 hx.2.1.2 hx.2.2.2) mv_X7_115 rfl rfl (by decide) dX7_tellDeeds_1 rfl rfl (Nat.le_of_ble_eq_true rfl) (fun z1 h1 => ?_)
  obtain ⟨f, hf, hu⟩ := h1
  have hu : z1 = unP f (σ 17 3) := hu
  have hun := unP_in (t := 1) (b := σ 30) (f := f) hn
  refine R_istore_n hB (L' := [_, _, _]) dX7_tellDeeds_4 rfl (Nat.le_of_ble_eq_true rfl) rfl ?_
  refine R_aload_n hB (j := 1) dX7_tellDeeds_5 rfl rfl ?_
  refine R_getr hB (2) fl_X7_24 dX7_tellDeeds_6 rfl rfl ?_
  refine R_iconst hB dX7_tellDeeds_9 ?_
  refine N_puti hB fp_X7_140 dX7_tellDeeds_10 rfl (by omega) (fun σ1 e1 => ?_)
  refine R_iconst hB dX7_tellDeeds_13 ?_
  refine R_istore_n hB (L' := [_, _, _, _]) dX7_tellDeeds_14 rfl (Nat.le_of_ble_eq_true rfl) rfl ?_
  have lp_15 : ∀ (n_15 : Nat) (d : Int) (σ2 : Mem), ((unP f (σ 17 3) - d).toNat) < n_15 → (0 ≤ d ∧ d ≤ unP f (σ 17 3)) → (Same [2, 33, 34, 35, 36] σ σ2) → (σ2 2 4 = d) → (RowOK (σ2 33) (σ2 34) (σ2 35) (σ2 36) (σ2 2 4)) → (∀ j : Int, 0 ≤ j → j < d → σ2 33 j = 10 * (σ 30 (j * 5) - 48) + (σ 30 (j * 5 + 1) - 48) ∧ σ2 34 j = σ 30 (j * 5 + 2) - 48 ∧ σ2 35 j = ixT 1 (σ 30 (j * 5 + 3))) → Run Θ Γ 15 [(0, .ref (Th.r Θ 0)), (1, .ref (Th.r Θ 17)), (2, .int (I z1)), (3, .int (I d))] [] σ2 := by
    intro n_15
    induction n_15 with
    | zero => intro d σ2 h_m; exact absurd h_m (Nat.not_lt_zero _)
    | succ n_15 ih_15 =>
      intro d σ2 h_m hd hS h24 hrow hdd
      refine R_iload_n hB (j := 3) dX7_tellDeeds_15 rfl rfl ?_
      refine R_iload_n hB (j := 2) dX7_tellDeeds_16 rfl rfl ?_
      refine R_icmp_ge hB 60 (by omega) (by omega) dX7_tellDeeds_17 rfl (fun h17 => ?_) (fun h17 => ?_)
      · exact R_vret hB hE rfl dX7_tellDeeds_60 (by
          have hdu : d = unP f (σ 17 3) := by omega
          refine ⟨hS, f, ?_, ?_, hrow, fun j q1 q2 => ?_⟩
          · rw [hS 30 (by decide), hS 17 (by decide)]; exact hf
          · rw [h24, hS 17 (by decide), hdu]
          · rw [h24] at q2
            rw [hS 30 (by decide)]
            exact hdd j q1 q2)
      · obtain ⟨hf1, hlt, g0, g1, g2, g3⟩ := unP_fit hf hn (s := d) hd.1 (by omega)
        have c30 : σ2 30 = σ 30 := hS 30 (by decide)
        have k0 : gr 1 0 = 4 := rfl
        have k1 : gr 1 1 = 9 := rfl
        have k2 : gr 1 2 = 9 := rfl
        have k3 := ixT_in 1 (σ 30 (d * 5 + 3))
        have b3 := hb (d * 5 + 3) (by omega) (by omega)
        refine R_aload_n hB (j := 0) dX7_tellDeeds_20 rfl rfl ?_
        refine R_getr hB (2) fl_X7_24 dX7_tellDeeds_21 rfl rfl ?_
        refine R_bipush hB dX7_tellDeeds_24 rfl ?_
        refine R_aload_n hB (j := 1) dX7_tellDeeds_26 rfl rfl ?_
        refine R_iload_n hB (j := 3) dX7_tellDeeds_27 rfl rfl ?_
        refine R_iconst hB dX7_tellDeeds_28 ?_
        refine P_cV1 hB (s_figure_1 d 0 (by omega)) mv_X7_121 rfl rfl (by decide) dX7_tellDeeds_29 rfl rfl (Nat.le_of_ble_eq_true rfl) (fun z29 h29 => ?_)
        rw [c30] at h29
        rw [Int.add_zero] at h29
        refine R_imul hB dX7_tellDeeds_32 ?_
        refine R_aload_n hB (j := 1) dX7_tellDeeds_33 rfl rfl ?_
        refine R_iload_n hB (j := 3) dX7_tellDeeds_34 rfl rfl ?_
        refine R_iconst hB dX7_tellDeeds_35 ?_
        refine P_cV1 hB (s_figure_1 d 1 (by omega)) mv_X7_121 rfl rfl (by decide) dX7_tellDeeds_36 rfl rfl (Nat.le_of_ble_eq_true rfl) (fun z36 h36 => ?_)
        rw [c30] at h36
        refine R_iadd hB dX7_tellDeeds_39 ?_
        refine R_aload_n hB (j := 1) dX7_tellDeeds_40 rfl rfl ?_
        refine R_iload_n hB (j := 3) dX7_tellDeeds_41 rfl rfl ?_
        refine R_iconst hB dX7_tellDeeds_42 ?_
        refine P_cV1 hB (s_figure_1 d 2 (by omega)) mv_X7_121 rfl rfl (by decide) dX7_tellDeeds_43 rfl rfl (Nat.le_of_ble_eq_true rfl) (fun z43 h43 => ?_)
        rw [c30] at h43
        refine R_aload_n hB (j := 1) dX7_tellDeeds_46 rfl rfl ?_
        refine R_iload_n hB (j := 3) dX7_tellDeeds_47 rfl rfl ?_
        refine P_cV1 hB (s_letter_1 d (by omega) (by rw [c30]; exact b3)) mv_X7_133 rfl rfl (by decide) dX7_tellDeeds_48 rfl rfl (Nat.le_of_ble_eq_true rfl) (fun z48 h48 => ?_)
        rw [c30] at h48
        refine R_cV0 hB (s_dadd_2 _ _ _ (by omega) (by omega) (by omega) hrow (by omega)) mv_X7_141 rfl rfl (by decide) dX7_tellDeeds_51 rfl rfl (Nat.le_of_ble_eq_true rfl) (fun σ3 h51 => ?_)
        obtain ⟨j1, j2, j3, j4, j5, j6⟩ := h51
        rw [h24] at j2 j3 j4 j5
        refine R_iinc hB (j := 3) (L' := [_, _, _, _]) dX7_tellDeeds_54 rfl (Nat.le_of_ble_eq_true rfl) rfl ?_
        refine R_goto hB 15 dX7_tellDeeds_57 rfl ?_
        exact R_sub [1, 2, 3, 0] rfl (ih_15 _ _ (by omega) (by omega) (hS.tr j1 (fun _ h => h) (fun _ h => h)) j2 j6 (fun j q1 q2 => by
          rw [j3, j4, j5]
          by_cases c : j = d
          · rw [if_pos c, if_pos c, if_pos c, h29, h36, h43, h48, c]
            exact ⟨rfl, rfl, rfl⟩
          · rw [if_neg c, if_neg c, if_neg c]
            exact hdd j q1 (by omega)))
  exact R_sub [2, 3, 1, 0] rfl (lp_15 _ _ _ (Nat.lt_succ_self _) (by omega) (by rw [e1]; exact Same.up (by decide)) (by rw [e1, up_s]) (by rw [e1, up_s]; exact row_0 _ _ _ _) (fun j q1 q2 => by omega))
