theorem s_bitCount {Θ : Th} {σ : Mem} (a : Int) (h : 0 ≤ a ∧ a < 256) : Spc Θ M_J6_bitCount_0f7a4 1 [.int (I a)] σ (Pu σ (fun z => z = pc8 a)) := by
  refine Spc_of (by decide +kernel) (Nat.le_of_ble_eq_true rfl) (fun Γ hB hE => ?_)
  show Run Θ Γ 0 [(0, .int (I a))] [] σ
  refine R_iload_n hB (j := 0) dJ6_bitCount_0f7a4_0 rfl rfl ?_
  refine R_iload_n hB (j := 0) dJ6_bitCount_0f7a4_1 rfl rfl ?_
  refine R_iconst hB dJ6_bitCount_0f7a4_2 ?_
  refine R_iushr hB (uz (a) (1)) (I_of _).symm dJ6_bitCount_0f7a4_3 ?_
  refine R_ldcw hB dJ6_bitCount_0f7a4_4 kc_J6_265 ?_
  refine R_iand hB (az (uz (a) (1)) (1431655765)) (I_of _).symm dJ6_bitCount_0f7a4_7 ?_
  refine R_isub hB dJ6_bitCount_0f7a4_8 ?_
  refine R_nmi (fun x1 hx1 => ?_)
  refine R_istore_n hB (L' := [_]) dJ6_bitCount_0f7a4_9 rfl (Nat.le_of_ble_eq_true rfl) rfl ?_
  refine R_iload_n hB (j := 0) dJ6_bitCount_0f7a4_10 rfl rfl ?_
  refine R_ldcw hB dJ6_bitCount_0f7a4_11 kc_J6_266 ?_
  refine R_iand hB (az (x1) (858993459)) (I_of _).symm dJ6_bitCount_0f7a4_14 ?_
  refine R_iload_n hB (j := 0) dJ6_bitCount_0f7a4_15 rfl rfl ?_
  refine R_iconst hB dJ6_bitCount_0f7a4_16 ?_
  refine R_iushr hB (uz (x1) (2)) (I_of _).symm dJ6_bitCount_0f7a4_17 ?_
  refine R_ldcw hB dJ6_bitCount_0f7a4_18 kc_J6_266 ?_
  refine R_iand hB (az (uz (x1) (2)) (858993459)) (I_of _).symm dJ6_bitCount_0f7a4_21 ?_
  refine R_iadd hB dJ6_bitCount_0f7a4_22 ?_
  refine R_nmi (fun x2 hx2 => ?_)
  refine R_istore_n hB (L' := [_]) dJ6_bitCount_0f7a4_23 rfl (Nat.le_of_ble_eq_true rfl) rfl ?_
  refine R_iload_n hB (j := 0) dJ6_bitCount_0f7a4_24 rfl rfl ?_
  refine R_iload_n hB (j := 0) dJ6_bitCount_0f7a4_25 rfl rfl ?_
  refine R_iconst hB dJ6_bitCount_0f7a4_26 ?_
  refine R_iushr hB (uz (x2) (4)) (I_of _).symm dJ6_bitCount_0f7a4_27 ?_
  refine R_iadd hB dJ6_bitCount_0f7a4_28 ?_
  refine R_ldcw hB dJ6_bitCount_0f7a4_29 kc_J6_267 ?_
  refine R_iand hB (az ((x2) + (uz (x2) (4))) (252645135)) (I_of _).symm dJ6_bitCount_0f7a4_32 ?_
  refine R_nmi (fun x3 hx3 => ?_)
  refine R_istore_n hB (L' := [_]) dJ6_bitCount_0f7a4_33 rfl (Nat.le_of_ble_eq_true rfl) rfl ?_
  refine R_iload_n hB (j := 0) dJ6_bitCount_0f7a4_34 rfl rfl ?_
  refine R_iload_n hB (j := 0) dJ6_bitCount_0f7a4_35 rfl rfl ?_
  refine R_bipush hB dJ6_bitCount_0f7a4_36 rfl ?_
  refine R_iushr hB (uz (x3) (8)) (I_of _).symm dJ6_bitCount_0f7a4_38 ?_
  refine R_iadd hB dJ6_bitCount_0f7a4_39 ?_
  refine R_nmi (fun x4 hx4 => ?_)
  refine R_istore_n hB (L' := [_]) dJ6_bitCount_0f7a4_40 rfl (Nat.le_of_ble_eq_true rfl) rfl ?_
  refine R_iload_n hB (j := 0) dJ6_bitCount_0f7a4_41 rfl rfl ?_
  refine R_iload_n hB (j := 0) dJ6_bitCount_0f7a4_42 rfl rfl ?_
  refine R_bipush hB dJ6_bitCount_0f7a4_43 rfl ?_
  refine R_iushr hB (uz (x4) (16)) (I_of _).symm dJ6_bitCount_0f7a4_45 ?_
  refine R_iadd hB dJ6_bitCount_0f7a4_46 ?_
  refine R_nmi (fun x5 hx5 => ?_)
  refine R_istore_n hB (L' := [_]) dJ6_bitCount_0f7a4_47 rfl (Nat.le_of_ble_eq_true rfl) rfl ?_
  refine R_iload_n hB (j := 0) dJ6_bitCount_0f7a4_48 rfl rfl ?_
  refine R_bipush hB dJ6_bitCount_0f7a4_49 rfl ?_
  refine R_iand hB (az (x5) (63)) (I_of _).symm dJ6_bitCount_0f7a4_51 ?_
  exact R_iret hB hE rfl dJ6_bitCount_0f7a4_52 (⟨rfl, by
    obtain ⟨n, rfl⟩ := Int.eq_ofNat_of_zero_le h.1
    subst hx1 hx2 hx3 hx4 hx5
    exact pc8_bc n (by omega)⟩)

theorem s_fill {Θ : Th} {σ : Mem} (i n : Nat) (v : Int) (hv : rng v) (ha : arrOf i = (0, n)) : Spc Θ M_J7_fill_53178 0 [.ref (Th.r Θ i), .int (I v)] σ (fun z σ' => σ' = fillM σ i n v) := by
  refine Spc_of (by decide +kernel) (Nat.le_of_ble_eq_true rfl) (fun Γ hB hE => ?_)
  show Run Θ Γ 0 [(0, .ref (Th.r Θ i)), (1, .int (I v))] [] σ
  have hn := arr_n ha
  refine R_iconst hB dJ7_fill_53178_0 ?_
  refine R_istore_n hB (L' := [_, _, _]) dJ7_fill_53178_1 rfl (Nat.le_of_ble_eq_true rfl) rfl ?_
  refine R_aload_n hB (j := 1) dJ7_fill_53178_2 rfl rfl ?_
  refine R_alen hB (z := (n : Int)) ha (by decide) (rfl) dJ7_fill_53178_3 ?_
  refine R_istore_n hB (L' := [_, _, _, _]) dJ7_fill_53178_4 rfl (Nat.le_of_ble_eq_true rfl) rfl ?_
  have lp_5 : ∀ (n_5 : Nat) (k : Int) (σ1 : Mem), ((n - k).toNat) < n_5 → (0 ≤ k ∧ k ≤ n) → (σ1 = fillM σ i k v) → Run Θ Γ 5 [(0, .ref (Th.r Θ i)), (1, .int (I v)), (2, .int (I k)), (3, .int (I ((n : Int))))] [] σ1 := by
    intro n_5
    induction n_5 with
    | zero => intro k σ1 h_m; exact absurd h_m (Nat.not_lt_zero _)
    | succ n_5 ih_5 =>
      intro k σ1 h_m hk hs
      refine R_iload_n hB (j := 2) dJ7_fill_53178_5 rfl rfl ?_
      refine R_iload_n hB (j := 3) dJ7_fill_53178_6 rfl rfl ?_
      refine R_icmp_ge hB 20 (by omega) (by omega) dJ7_fill_53178_7 rfl (fun h7 => ?_) (fun h7 => ?_)
      · exact R_vret hB hE rfl dJ7_fill_53178_20 (by rw [hs]; congr 1; omega)
      · refine R_aload_n hB (j := 0) dJ7_fill_53178_10 rfl rfl ?_
        refine R_iload_n hB (j := 2) dJ7_fill_53178_11 rfl rfl ?_
        refine R_iload_n hB (j := 1) dJ7_fill_53178_12 rfl rfl ?_
        refine N_iast hB ha (by omega) (hv) dJ7_fill_53178_13 (fun σ1 e1 => ?_)
        refine R_iinc hB (j := 2) (L' := [_, _, _, _]) dJ7_fill_53178_14 rfl (Nat.le_of_ble_eq_true rfl) rfl ?_
        refine R_goto hB 5 dJ7_fill_53178_17 rfl ?_
        exact R_sub [1, 2, 0, 3] rfl (ih_5 _ _ (by omega) (by omega) (by rw [e1, hs]; exact fill_up σ i (by omega)))
  exact R_sub [2, 3, 1, 0] rfl (lp_5 _ _ _ (Nat.lt_succ_self _) (by omega) (fill_0 σ i v).symm)

theorem s_fillL {Θ : Th} {σ : Mem} (v : Int) (hv : rngL v) : Spc Θ M_J7_fill_d0a16 0 [.ref (Th.r Θ 28), .long (Jl v)] σ (fun z σ' => σ' = fillM σ 28 9 v) := by
  refine Spc_of (by decide +kernel) (Nat.le_of_ble_eq_true rfl) (fun Γ hB hE => ?_)
  show Run Θ Γ 0 [(0, .ref (Th.r Θ 28)), (1, .long (Jl v))] [] σ
  refine R_iconst hB dJ7_fill_d0a16_0 ?_
  refine R_istore_n hB (L' := [_, _, _]) dJ7_fill_d0a16_1 rfl (Nat.le_of_ble_eq_true rfl) rfl ?_
  refine R_aload_n hB (j := 1) dJ7_fill_d0a16_2 rfl rfl ?_
  refine R_alen hB (z := 9) rfl (by decide) rfl dJ7_fill_d0a16_3 ?_
  refine R_istore hB (L' := [_, _, _, _]) dJ7_fill_d0a16_4 (Nat.le_of_ble_eq_true rfl) rfl ?_
  have lp_6 : ∀ (n_6 : Nat) (k : Int) (σ1 : Mem), ((9 - k).toNat) < n_6 → (0 ≤ k ∧ k ≤ 9) → (σ1 = fillM σ 28 k v) → Run Θ Γ 6 [(0, .ref (Th.r Θ 28)), (1, .long (Jl v)), (3, .int (I k)), (4, .int (I 9))] [] σ1 := by
    intro n_6
    induction n_6 with
    | zero => intro k σ1 h_m; exact absurd h_m (Nat.not_lt_zero _)
    | succ n_6 ih_6 =>
      intro k σ1 h_m hk hs
      refine R_iload_n hB (j := 2) dJ7_fill_d0a16_6 rfl rfl ?_
      refine R_iload hB (j := 3) dJ7_fill_d0a16_7 rfl ?_
      refine R_icmp_ge hB 22 (by omega) (by omega) dJ7_fill_d0a16_9 rfl (fun h9 => ?_) (fun h9 => ?_)
      · exact R_vret hB hE rfl dJ7_fill_d0a16_22 (by rw [hs]; congr 1; omega)
      · refine R_aload_n hB (j := 0) dJ7_fill_d0a16_12 rfl rfl ?_
        refine R_iload_n hB (j := 2) dJ7_fill_d0a16_13 rfl rfl ?_
        refine R_lload_n hB (j := 1) dJ7_fill_d0a16_14 rfl rfl ?_
        refine N_last hB rfl (by decide) (by omega) (hv) dJ7_fill_d0a16_15 (fun σ1 e1 => ?_)
        refine R_iinc hB (j := 2) (L' := [_, _, _, _]) dJ7_fill_d0a16_16 rfl (Nat.le_of_ble_eq_true rfl) rfl ?_
        refine R_goto hB 6 dJ7_fill_d0a16_19 rfl ?_
        exact R_sub [1, 2, 0, 3] rfl (ih_6 _ _ (by omega) (by omega) (by rw [e1, hs]; exact fill_up σ 28 (by omega)))
  exact R_sub [2, 3, 1, 0] rfl (lp_6 _ _ _ (Nat.lt_succ_self _) (by omega) (fill_0 σ 28 v).symm)

theorem s_fits_0 {Θ : Th} {σ : Mem} (i : Int) (hi : 0 ≤ i ∧ i < 39) (hb : ∀ k, 0 ≤ k → k < 39 → 0 ≤ σ 29 k ∧ σ 29 k < 256) (hg : ∀ k, 0 ≤ k → k < 3 → σ 31 k = gr 0 k) : Spc Θ M_X6_fits 1 [.ref (Th.r Θ 16), .int (I i)] σ (Pu σ (fun z => z = if fitB 0 (σ 29 i) i = true then 1 else 0)) := by
  refine Spc_of (by decide +kernel) (Nat.le_of_ble_eq_true rfl) (fun Γ hB hE => ?_)
  show Run Θ Γ 0 [(0, .ref (Th.r Θ 16)), (1, .int (I i))] [] σ
  have hb1 := hb i (by omega) (by omega)
  have hg1 := hg (i % 5)
  have hg2 := gr_in (t := 0) (by decide) (k := i % 5)
  refine R_aload_n hB (j := 0) dX6_fits_0 rfl rfl ?_
  refine R_getr hB (29) fl_X6_9 dX6_fits_1 rfl rfl ?_
  refine R_iload_n hB (j := 1) dX6_fits_4 rfl rfl ?_
  refine R_iald hB rfl (by omega) dX6_fits_5 ?_
  refine R_istore_n hB (L' := [_, _, _]) dX6_fits_6 rfl (Nat.le_of_ble_eq_true rfl) rfl ?_
  refine R_iload_n hB (j := 2) dX6_fits_7 rfl rfl ?_
  refine R_iconst hB dX6_fits_8 ?_
  refine R_irem hB ((i) % (5)) (i_ne0 (by decide) (by decide)) (i_rem (by omega) (by omega)) dX6_fits_9 ?_
  refine R_istore_n hB (L' := [_, _, _, _]) dX6_fits_10 rfl (Nat.le_of_ble_eq_true rfl) rfl ?_
  refine R_iload_n hB (j := 0) dX6_fits_11 rfl rfl ?_
  refine R_iconst hB dX6_fits_12 ?_
  refine R_icmp_ge hB 41 (by omega) (by omega) dX6_fits_13 rfl (fun h13 => ?_) (fun h13 => ?_)
  · refine R_iload_n hB (j := 0) dX6_fits_41 rfl rfl ?_
    refine R_iconst hB dX6_fits_42 ?_
    refine R_icmp_ne hB 66 (by omega) (by omega) dX6_fits_43 rfl (fun h43 => ?_) (fun h43 => ?_)
    · refine R_iload_n hB (j := 1) dX6_fits_66 rfl rfl ?_
      refine R_bipush hB dX6_fits_67 rfl ?_
      refine R_icmp_ne hB 76 (by omega) (by omega) dX6_fits_69 rfl (fun h69 => ?_) (fun h69 => ?_)
      · refine R_iconst hB dX6_fits_76 ?_
        exact R_zret hB hE rfl (rfl) dX6_fits_77 (⟨rfl, by simp only [fitB, if_neg (show ¬ i % 5 < 3 by omega)]; split <;> simp_all <;> omega⟩)
      · refine R_iconst hB dX6_fits_72 ?_
        refine R_goto hB 77 dX6_fits_73 rfl ?_
        exact R_zret hB hE rfl (rfl) dX6_fits_77 (⟨rfl, by simp only [fitB, if_neg (show ¬ i % 5 < 3 by omega)]; split <;> simp_all <;> omega⟩)
    · refine R_aload_n hB (j := 2) dX6_fits_46 rfl rfl ?_
      refine R_gett hB 0 fl_X6_18 dX6_fits_47 rfl rfl ?_
      refine R_iload_n hB (j := 1) dX6_fits_50 rfl rfl ?_
      refine R_i2c hB (σ 29 i) (i_c (by omega)) dX6_fits_51 ?_
      refine P_cT1 hB (s_indexOf _ (by decide) _ (by omega)) mv_X6_22 (by decide) rfl (by decide) dX6_fits_52 rfl rfl (Nat.le_of_ble_eq_true rfl) (fun z52 h52 => ?_)
      refine R_if_lt hB 62 (by unfold ixT at h52; (repeat split at h52) <;> omega) dX6_fits_55 rfl (fun h55 => ?_) (fun h55 => ?_)
      · refine R_iconst hB dX6_fits_62 ?_
        refine R_goto hB 77 dX6_fits_63 rfl ?_
        exact R_zret hB hE rfl (rfl) dX6_fits_77 (⟨rfl, by simp only [fitB, if_neg (show ¬ i % 5 < 3 by omega)]; split <;> simp_all <;> omega⟩)
      · refine R_iconst hB dX6_fits_58 ?_
        refine R_goto hB 77 dX6_fits_59 rfl ?_
        exact R_zret hB hE rfl (rfl) dX6_fits_77 (⟨rfl, by simp only [fitB, if_neg (show ¬ i % 5 < 3 by omega)]; split <;> simp_all <;> omega⟩)
  · refine R_iload_n hB (j := 1) dX6_fits_16 rfl rfl ?_
    refine R_bipush hB dX6_fits_17 rfl ?_
    refine R_icmp_lt hB 39 (by omega) (by omega) dX6_fits_19 rfl (fun h19 => ?_) (fun h19 => ?_)
    · refine R_iconst hB dX6_fits_39 ?_
      exact R_zret hB hE rfl (rfl) dX6_fits_40 (⟨rfl, by simp only [fitB, if_pos h13]; split <;> simp_all <;> omega⟩)
    · refine R_iload_n hB (j := 1) dX6_fits_22 rfl rfl ?_
      refine R_bipush hB dX6_fits_23 rfl ?_
      refine R_aload_n hB (j := 2) dX6_fits_25 rfl rfl ?_
      refine R_getr hB (31) fl_X6_15 dX6_fits_26 rfl rfl ?_
      refine R_iload_n hB (j := 0) dX6_fits_29 rfl rfl ?_
      refine R_iald hB rfl (by omega) dX6_fits_30 ?_
      have hg3 := hg1 (by omega) (by omega)
      have hg4 := hg2 (by omega)
      refine R_iadd hB dX6_fits_31 ?_
      refine R_icmp_gt hB 39 (by omega) (by omega) dX6_fits_32 rfl (fun h32 => ?_) (fun h32 => ?_)
      · refine R_iconst hB dX6_fits_39 ?_
        exact R_zret hB hE rfl (rfl) dX6_fits_40 (⟨rfl, by simp only [fitB, if_pos h13]; split <;> simp_all <;> omega⟩)
      · refine R_iconst hB dX6_fits_35 ?_
        refine R_goto hB 40 dX6_fits_36 rfl ?_
        exact R_zret hB hE rfl (rfl) dX6_fits_40 (⟨rfl, by simp only [fitB, if_pos h13]; split <;> simp_all <;> omega⟩)

theorem s_figure_0 {Θ : Th} {σ : Mem} (u a : Int) (hi : 0 ≤ u * 5 + a ∧ u * 5 + a < 39) : Spc Θ M_X6_figure 1 [.ref (Th.r Θ 16), .int (I u), .int (I a)] σ (Pu σ (fun z => z = σ 29 (u * 5 + a) - 48)) := by
  refine Spc_of (by decide +kernel) (Nat.le_of_ble_eq_true rfl) (fun Γ hB hE => ?_)
  show Run Θ Γ 0 [(0, .ref (Th.r Θ 16)), (1, .int (I u)), (2, .int (I a))] [] σ
  refine R_aload_n hB (j := 0) dX6_figure_0 rfl rfl ?_
  refine R_getr hB (29) fl_X6_9 dX6_figure_1 rfl rfl ?_
  refine R_iload_n hB (j := 1) dX6_figure_4 rfl rfl ?_
  refine R_iconst hB dX6_figure_5 ?_
  refine R_imul hB dX6_figure_6 ?_
  refine R_iload_n hB (j := 2) dX6_figure_7 rfl rfl ?_
  refine R_iadd hB dX6_figure_8 ?_
  refine R_iald hB rfl (by omega) dX6_figure_9 ?_
  refine R_bipush hB dX6_figure_10 rfl ?_
  refine R_isub hB dX6_figure_12 ?_
  exact R_iret hB hE rfl dX6_figure_13 (⟨rfl, (by omega)⟩)

theorem s_letter_0 {Θ : Th} {σ : Mem} (u : Int) (hi : 0 ≤ u * 5 + 3 ∧ u * 5 + 3 < 39) (hb : 0 ≤ σ 29 (u * 5 + 3) ∧ σ 29 (u * 5 + 3) < 256) : Spc Θ M_X6_letter 1 [.ref (Th.r Θ 16), .int (I u)] σ (Pu σ (fun z => z = ixT 0 (σ 29 (u * 5 + 3)))) := by
  refine Spc_of (by decide +kernel) (Nat.le_of_ble_eq_true rfl) (fun Γ hB hE => ?_)
  show Run Θ Γ 0 [(0, .ref (Th.r Θ 16)), (1, .int (I u))] [] σ
  refine R_aload_n hB (j := 0) dX6_letter_0 rfl rfl ?_
  refine R_gett hB 0 fl_X6_18 dX6_letter_1 rfl rfl ?_
  refine R_aload_n hB (j := 0) dX6_letter_4 rfl rfl ?_
  refine R_getr hB (29) fl_X6_9 dX6_letter_5 rfl rfl ?_
  refine R_iload_n hB (j := 1) dX6_letter_8 rfl rfl ?_
  refine R_iconst hB dX6_letter_9 ?_
  refine R_imul hB dX6_letter_10 ?_
  refine R_iconst hB dX6_letter_11 ?_
  refine R_iadd hB dX6_letter_12 ?_
  refine R_iald hB rfl (by omega) dX6_letter_13 ?_
  refine R_i2c hB (σ 29 (((u) * (5)) + (3))) (i_c (by omega)) dX6_letter_14 ?_
  refine P_cT1 hB (s_indexOf _ (by decide) _ (by omega)) mv_X6_22 (by decide) rfl (by decide) dX6_letter_15 rfl rfl (Nat.le_of_ble_eq_true rfl) (fun z15 h15 => ?_)
  exact R_iret hB hE rfl dX6_letter_18 (⟨rfl, h15⟩)

theorem s_fits_1 {Θ : Th} {σ : Mem} (i : Int) (hi : 0 ≤ i ∧ i < 39) (hb : ∀ k, 0 ≤ k → k < 39 → 0 ≤ σ 30 k ∧ σ 30 k < 256) (hg : ∀ k, 0 ≤ k → k < 3 → σ 32 k = gr 1 k) : Spc Θ M_X6_fits 1 [.ref (Th.r Θ 17), .int (I i)] σ (Pu σ (fun z => z = if fitB 1 (σ 30 i) i = true then 1 else 0)) := by
  refine Spc_of (by decide +kernel) (Nat.le_of_ble_eq_true rfl) (fun Γ hB hE => ?_)
  show Run Θ Γ 0 [(0, .ref (Th.r Θ 17)), (1, .int (I i))] [] σ
  have hb1 := hb i (by omega) (by omega)
  have hg1 := hg (i % 5)
  have hg2 := gr_in (t := 1) (by decide) (k := i % 5)
  refine R_aload_n hB (j := 0) dX6_fits_0 rfl rfl ?_
  refine R_getr hB (30) fl_X6_9 dX6_fits_1 rfl rfl ?_
  refine R_iload_n hB (j := 1) dX6_fits_4 rfl rfl ?_
  refine R_iald hB rfl (by omega) dX6_fits_5 ?_
  refine R_istore_n hB (L' := [_, _, _]) dX6_fits_6 rfl (Nat.le_of_ble_eq_true rfl) rfl ?_
  refine R_iload_n hB (j := 2) dX6_fits_7 rfl rfl ?_
  refine R_iconst hB dX6_fits_8 ?_
  refine R_irem hB ((i) % (5)) (i_ne0 (by decide) (by decide)) (i_rem (by omega) (by omega)) dX6_fits_9 ?_
  refine R_istore_n hB (L' := [_, _, _, _]) dX6_fits_10 rfl (Nat.le_of_ble_eq_true rfl) rfl ?_
  refine R_iload_n hB (j := 0) dX6_fits_11 rfl rfl ?_
  refine R_iconst hB dX6_fits_12 ?_
  refine R_icmp_ge hB 41 (by omega) (by omega) dX6_fits_13 rfl (fun h13 => ?_) (fun h13 => ?_)
  · refine R_iload_n hB (j := 0) dX6_fits_41 rfl rfl ?_
    refine R_iconst hB dX6_fits_42 ?_
    refine R_icmp_ne hB 66 (by omega) (by omega) dX6_fits_43 rfl (fun h43 => ?_) (fun h43 => ?_)
    · refine R_iload_n hB (j := 1) dX6_fits_66 rfl rfl ?_
      refine R_bipush hB dX6_fits_67 rfl ?_
      refine R_icmp_ne hB 76 (by omega) (by omega) dX6_fits_69 rfl (fun h69 => ?_) (fun h69 => ?_)
      · refine R_iconst hB dX6_fits_76 ?_
        exact R_zret hB hE rfl (rfl) dX6_fits_77 (⟨rfl, by simp only [fitB, if_neg (show ¬ i % 5 < 3 by omega)]; split <;> simp_all <;> omega⟩)
      · refine R_iconst hB dX6_fits_72 ?_
        refine R_goto hB 77 dX6_fits_73 rfl ?_
        exact R_zret hB hE rfl (rfl) dX6_fits_77 (⟨rfl, by simp only [fitB, if_neg (show ¬ i % 5 < 3 by omega)]; split <;> simp_all <;> omega⟩)
    · refine R_aload_n hB (j := 2) dX6_fits_46 rfl rfl ?_
      refine R_gett hB 1 fl_X6_18 dX6_fits_47 rfl rfl ?_
      refine R_iload_n hB (j := 1) dX6_fits_50 rfl rfl ?_
      refine R_i2c hB (σ 30 i) (i_c (by omega)) dX6_fits_51 ?_
      refine P_cT1 hB (s_indexOf _ (by decide) _ (by omega)) mv_X6_22 (by decide) rfl (by decide) dX6_fits_52 rfl rfl (Nat.le_of_ble_eq_true rfl) (fun z52 h52 => ?_)
      refine R_if_lt hB 62 (by unfold ixT at h52; (repeat split at h52) <;> omega) dX6_fits_55 rfl (fun h55 => ?_) (fun h55 => ?_)
      · refine R_iconst hB dX6_fits_62 ?_
        refine R_goto hB 77 dX6_fits_63 rfl ?_
        exact R_zret hB hE rfl (rfl) dX6_fits_77 (⟨rfl, by simp only [fitB, if_neg (show ¬ i % 5 < 3 by omega)]; split <;> simp_all <;> omega⟩)
      · refine R_iconst hB dX6_fits_58 ?_
        refine R_goto hB 77 dX6_fits_59 rfl ?_
        exact R_zret hB hE rfl (rfl) dX6_fits_77 (⟨rfl, by simp only [fitB, if_neg (show ¬ i % 5 < 3 by omega)]; split <;> simp_all <;> omega⟩)
  · refine R_iload_n hB (j := 1) dX6_fits_16 rfl rfl ?_
    refine R_bipush hB dX6_fits_17 rfl ?_
    refine R_icmp_lt hB 39 (by omega) (by omega) dX6_fits_19 rfl (fun h19 => ?_) (fun h19 => ?_)
    · refine R_iconst hB dX6_fits_39 ?_
      exact R_zret hB hE rfl (rfl) dX6_fits_40 (⟨rfl, by simp only [fitB, if_pos h13]; split <;> simp_all <;> omega⟩)
    · refine R_iload_n hB (j := 1) dX6_fits_22 rfl rfl ?_
      refine R_bipush hB dX6_fits_23 rfl ?_
      refine R_aload_n hB (j := 2) dX6_fits_25 rfl rfl ?_
      refine R_getr hB (32) fl_X6_15 dX6_fits_26 rfl rfl ?_
      refine R_iload_n hB (j := 0) dX6_fits_29 rfl rfl ?_
      refine R_iald hB rfl (by omega) dX6_fits_30 ?_
      have hg3 := hg1 (by omega) (by omega)
      have hg4 := hg2 (by omega)
      refine R_iadd hB dX6_fits_31 ?_
      refine R_icmp_gt hB 39 (by omega) (by omega) dX6_fits_32 rfl (fun h32 => ?_) (fun h32 => ?_)
      · refine R_iconst hB dX6_fits_39 ?_
        exact R_zret hB hE rfl (rfl) dX6_fits_40 (⟨rfl, by simp only [fitB, if_pos h13]; split <;> simp_all <;> omega⟩)
      · refine R_iconst hB dX6_fits_35 ?_
        refine R_goto hB 40 dX6_fits_36 rfl ?_
        exact R_zret hB hE rfl (rfl) dX6_fits_40 (⟨rfl, by simp only [fitB, if_pos h13]; split <;> simp_all <;> omega⟩)

theorem s_figure_1 {Θ : Th} {σ : Mem} (u a : Int) (hi : 0 ≤ u * 5 + a ∧ u * 5 + a < 39) : Spc Θ M_X6_figure 1 [.ref (Th.r Θ 17), .int (I u), .int (I a)] σ (Pu σ (fun z => z = σ 30 (u * 5 + a) - 48)) := by
  refine Spc_of (by decide +kernel) (Nat.le_of_ble_eq_true rfl) (fun Γ hB hE => ?_)
  show Run Θ Γ 0 [(0, .ref (Th.r Θ 17)), (1, .int (I u)), (2, .int (I a))] [] σ
  refine R_aload_n hB (j := 0) dX6_figure_0 rfl rfl ?_
  refine R_getr hB (30) fl_X6_9 dX6_figure_1 rfl rfl ?_
  refine R_iload_n hB (j := 1) dX6_figure_4 rfl rfl ?_
  refine R_iconst hB dX6_figure_5 ?_
  refine R_imul hB dX6_figure_6 ?_
  refine R_iload_n hB (j := 2) dX6_figure_7 rfl rfl ?_
  refine R_iadd hB dX6_figure_8 ?_
  refine R_iald hB rfl (by omega) dX6_figure_9 ?_
  refine R_bipush hB dX6_figure_10 rfl ?_
  refine R_isub hB dX6_figure_12 ?_
  exact R_iret hB hE rfl dX6_figure_13 (⟨rfl, (by omega)⟩)

theorem s_letter_1 {Θ : Th} {σ : Mem} (u : Int) (hi : 0 ≤ u * 5 + 3 ∧ u * 5 + 3 < 39) (hb : 0 ≤ σ 30 (u * 5 + 3) ∧ σ 30 (u * 5 + 3) < 256) : Spc Θ M_X6_letter 1 [.ref (Th.r Θ 17), .int (I u)] σ (Pu σ (fun z => z = ixT 1 (σ 30 (u * 5 + 3)))) := by
  refine Spc_of (by decide +kernel) (Nat.le_of_ble_eq_true rfl) (fun Γ hB hE => ?_)
  show Run Θ Γ 0 [(0, .ref (Th.r Θ 17)), (1, .int (I u))] [] σ
  refine R_aload_n hB (j := 0) dX6_letter_0 rfl rfl ?_
  refine R_gett hB 1 fl_X6_18 dX6_letter_1 rfl rfl ?_
  refine R_aload_n hB (j := 0) dX6_letter_4 rfl rfl ?_
  refine R_getr hB (30) fl_X6_9 dX6_letter_5 rfl rfl ?_
  refine R_iload_n hB (j := 1) dX6_letter_8 rfl rfl ?_
  refine R_iconst hB dX6_letter_9 ?_
  refine R_imul hB dX6_letter_10 ?_
  refine R_iconst hB dX6_letter_11 ?_
  refine R_iadd hB dX6_letter_12 ?_
  refine R_iald hB rfl (by omega) dX6_letter_13 ?_
  refine R_i2c hB (σ 30 (((u) * (5)) + (3))) (i_c (by omega)) dX6_letter_14 ?_
  refine P_cT1 hB (s_indexOf _ (by decide) _ (by omega)) mv_X6_22 (by decide) rfl (by decide) dX6_letter_15 rfl rfl (Nat.le_of_ble_eq_true rfl) (fun z15 h15 => ?_)
  exact R_iret hB hE rfl dX6_letter_18 (⟨rfl, h15⟩)

theorem s_deepAfter {Θ : Th} {σ : Mem} (o : Nat) (ho : clsOf o = 4) (h : Int) (hh : rng h) (hs : 0 ≤ σ o 2 ∧ σ o 2 ≤ 3) (hk : 0 ≤ σ o 3 ∧ σ o 3 ≤ 3) : Spc Θ M_X4_deepAfter 1 [.ref (Th.r Θ o), .int (I h)] σ (Pu σ (fun z => z = deepOf (σ o 2) (σ o 3) h)) := by
  refine Spc_of (by decide +kernel) (Nat.le_of_ble_eq_true rfl) (fun Γ hB hE => ?_)
  show Run Θ Γ 0 [(0, .ref (Th.r Θ o)), (1, .int (I h))] [] σ
  refine R_iload_n hB (j := 1) dX4_deepAfter_0 rfl rfl ?_
  refine R_if_lt hB 12 (by omega) dX4_deepAfter_1 rfl (fun h1 => ?_) (fun h1 => ?_)
  · have hq : deepOf (σ o 2) (σ o 3) h = 0 := by unfold deepOf; rw [if_pos (by omega)]
    refine R_iconst hB dX4_deepAfter_12 ?_
    exact R_iret hB hE rfl dX4_deepAfter_13 (⟨rfl, hq.symm⟩)
  · refine R_aload_n hB (j := 0) dX4_deepAfter_4 rfl rfl ?_
    refine R_geti hB fl_X4_21 dX4_deepAfter_5 ho ?_
    refine R_iconst hB dX4_deepAfter_8 ?_
    refine R_icmp_ne hB 14 (by omega) (by omega) dX4_deepAfter_9 rfl (fun h9 => ?_) (fun h9 => ?_)
    · have hq := sv0_in (x := h % 6) (by omega)
      have hne : ¬ (h < 0 ∨ σ o 3 = 3) := by omega
      refine R_getsN hB (t := 0) (by decide) hB.2.1.2.2.2.2.2.2.1 dX4_deepAfter_14 ?_
      refine R_iload_n hB (j := 1) dX4_deepAfter_17 rfl rfl ?_
      refine R_getsN hB (t := 0) (by decide) hB.2.1.2.2.2.2.2.2.1 dX4_deepAfter_18 ?_
      refine R_tlen hB (z := 6) (by decide) rfl dX4_deepAfter_21 ?_
      refine R_irem hB ((h) % (6)) (i_ne0 (by omega) (by omega)) (i_rem (by omega) (by omega)) dX4_deepAfter_22 ?_
      refine N_tald hB (n := 6) (by decide) rfl (by omega) dX4_deepAfter_23 ?_
      refine R_aload_n hB (j := 0) dX4_deepAfter_24 rfl rfl ?_
      refine R_geti hB fl_X4_18 dX4_deepAfter_25 ho ?_
      refine R_iadd hB dX4_deepAfter_28 ?_
      refine R_istore_n hB (L' := [_, _, _]) dX4_deepAfter_29 rfl (Nat.le_of_ble_eq_true rfl) rfl ?_
      refine R_aload_n hB (j := 1) dX4_deepAfter_30 rfl rfl ?_
      refine R_geti hB fl_X4_21 dX4_deepAfter_31 ho ?_
      rcases (show ((σ o 3) < 0 ∨ 2 < (σ o 3)) ∨ (σ o 3) = 0 ∨ (σ o 3) = 1 ∨ (σ o 3) = 2 by omega) with h34 | h34 | h34 | h34
      · exfalso; omega
      · refine R_tsIn hB 0 60 (by omega) h34 dX4_deepAfter_34 (by decide) (by decide) rfl rfl ?_
        refine R_iload_n hB (j := 0) dX4_deepAfter_60 rfl rfl ?_
        refine R_iconst hB dX4_deepAfter_61 ?_
        refine R_iadd hB dX4_deepAfter_62 ?_
        exact R_iret hB hE rfl dX4_deepAfter_63 (⟨rfl, by simp only [deepOf, if_neg hne]; (repeat split) <;> omega⟩)
      · refine R_tsIn hB 1 64 (by omega) h34 dX4_deepAfter_34 (by decide) (by decide) rfl rfl ?_
        refine R_iconst hB dX4_deepAfter_64 ?_
        refine R_iload_n hB (j := 0) dX4_deepAfter_65 rfl rfl ?_
        refine R_iconst hB dX4_deepAfter_66 ?_
        refine R_isub hB dX4_deepAfter_67 ?_
        refine P_max hB (by omega) (by omega) ms_X4_28 (by decide) dX4_deepAfter_68 (Nat.le_of_ble_eq_true rfl) ?_
        exact R_iret hB hE rfl dX4_deepAfter_71 (⟨rfl, by simp only [deepOf, if_neg hne]; (repeat split) <;> omega⟩)
      · refine R_tsIn hB 2 72 (by omega) h34 dX4_deepAfter_34 (by decide) (by decide) rfl rfl ?_
        refine R_iconst hB dX4_deepAfter_72 ?_
        refine R_iload_n hB (j := 0) dX4_deepAfter_73 rfl rfl ?_
        refine P_min hB (by omega) (by omega) ms_X4_34 (by decide) dX4_deepAfter_74 (Nat.le_of_ble_eq_true rfl) ?_
        exact R_iret hB hE rfl dX4_deepAfter_77 (⟨rfl, by simp only [deepOf, if_neg hne]; (repeat split) <;> omega⟩)
    · have hq : deepOf (σ o 2) (σ o 3) h = 0 := by unfold deepOf; rw [if_pos (by omega)]
      refine R_iconst hB dX4_deepAfter_12 ?_
      exact R_iret hB hE rfl dX4_deepAfter_13 (⟨rfl, hq.symm⟩)

theorem s_loudAt {Θ : Th} {σ : Mem} (ho fr so : Int) (h1 : 0 ≤ ho ∧ ho ≤ 9) (h2 : 0 ≤ fr ∧ fr ≤ 9) (h3 : 0 ≤ so ∧ so < 4) : Spc Θ M_X2_loudAt 1 [.int (I ho), .int (I fr), .int (I so)] σ (Pu σ (fun z => z = loudOf ho fr so)) := by
  refine Spc_of (by decide +kernel) (Nat.le_of_ble_eq_true rfl) (fun Γ hB hE => ?_)
  show Run Θ Γ 0 [(0, .int (I ho)), (1, .int (I fr)), (2, .int (I so))] [] σ
  have hq := sv1_in h3
  refine R_iconst hB dX2_loudAt_0 ?_
  refine R_getsN hB (t := 1) (by decide) hB.2.1.2.2.2.2.2.1 dX2_loudAt_1 ?_
  refine R_iload_n hB (j := 2) dX2_loudAt_4 rfl rfl ?_
  refine N_tald hB (n := 4) (by decide) rfl (by omega) dX2_loudAt_5 ?_
  refine R_iload_n hB (j := 0) dX2_loudAt_6 rfl rfl ?_
  refine R_iload_n hB (j := 1) dX2_loudAt_7 rfl rfl ?_
  refine R_isub hB dX2_loudAt_8 ?_
  refine P_abs hB (by omega) ms_X2_98 (by decide) dX2_loudAt_9 (Nat.le_of_ble_eq_true rfl) ?_
  refine R_isub hB dX2_loudAt_12 ?_
  refine P_max hB (by omega) (by split <;> omega) ms_X2_103 (by decide) dX2_loudAt_13 (Nat.le_of_ble_eq_true rfl) ?_
  exact R_iret hB hE rfl dX2_loudAt_16 (⟨rfl, rfl⟩)

theorem s_fateBy {Θ : Th} {σ : Mem} (lo de : Int) (h1 : 0 ≤ lo ∧ lo ≤ 100) (h2 : 0 ≤ de ∧ de ≤ 100) : Spc Θ M_X2_fateBy 1 [.int (I lo), .int (I de)] σ (Pu σ (fun z => z = fateOf lo de)) := by
  refine Spc_of (by decide +kernel) (Nat.le_of_ble_eq_true rfl) (fun Γ hB hE => ?_)
  show Run Θ Γ 0 [(0, .int (I lo)), (1, .int (I de))] [] σ
  refine R_iload_n hB (j := 0) dX2_fateBy_0 rfl rfl ?_
  refine R_if_ne hB 6 (by omega) dX2_fateBy_1 rfl (fun h1 => ?_) (fun h1 => ?_)
  · refine R_iload_n hB (j := 1) dX2_fateBy_6 rfl rfl ?_
    refine R_if_ne hB 12 (by omega) dX2_fateBy_7 rfl (fun h7 => ?_) (fun h7 => ?_)
    · refine R_iload_n hB (j := 0) dX2_fateBy_12 rfl rfl ?_
      refine R_iload_n hB (j := 1) dX2_fateBy_13 rfl rfl ?_
      refine R_iconst hB dX2_fateBy_14 ?_
      refine R_iadd hB dX2_fateBy_15 ?_
      refine R_icmp_lt hB 23 (by omega) (by omega) dX2_fateBy_16 rfl (fun h16 => ?_) (fun h16 => ?_)
      · refine R_iconst hB dX2_fateBy_23 ?_
        exact R_iret hB hE rfl dX2_fateBy_24 (⟨rfl, by unfold fateOf; (repeat split) <;> omega⟩)
      · refine R_iconst hB dX2_fateBy_19 ?_
        refine R_goto hB 24 dX2_fateBy_20 rfl ?_
        exact R_iret hB hE rfl dX2_fateBy_24 (⟨rfl, by unfold fateOf; (repeat split) <;> omega⟩)
    · refine R_iconst hB dX2_fateBy_10 ?_
      exact R_iret hB hE rfl dX2_fateBy_11 (⟨rfl, by unfold fateOf; (repeat split) <;> omega⟩)
  · refine R_iconst hB dX2_fateBy_4 ?_
    exact R_iret hB hE rfl dX2_fateBy_5 (⟨rfl, by unfold fateOf; (repeat split) <;> omega⟩)
