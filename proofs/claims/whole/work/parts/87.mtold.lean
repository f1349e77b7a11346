theorem s_mtold {Θ : Th} {σ : Mem} (a b c : Int) (ha : rng a) (hb : rng b) (hc0 : rng c) (hn : 0 ≤ σ 1 22 ∧ σ 1 22 ≤ 8) : Spc Θ M_X8_told 1 [.ref (Th.r Θ 1), .int (I a), .int (I b), .int (I c)] σ (fun r σ' => (¬ tokP a b c ∧ r = -2 ∧ σ' = σ) ∨ (tokP a b c ∧ σ 1 22 = 8 ∧ r = -4 ∧ σ' = σ) ∨ (tokP a b c ∧ σ 1 22 < 8 ∧ r = σ 1 22 + 1 ∧ σ' = tlM σ a b c)) := by
  refine Spc_of (by decide +kernel) (Nat.le_of_ble_eq_true rfl) (fun Γ hB hE => ?_)
  show Run Θ Γ 0 [(0, .ref (Th.r Θ 1)), (1, .int (I a)), (2, .int (I b)), (3, .int (I c))] [] σ
  refine R_iload_n hB (j := 1) dX8_told_0 rfl rfl ?_
  refine R_iconst hB dX8_told_1 ?_
  refine R_bipush hB dX8_told_2 rfl ?_
  refine P_cS1 hB (s_in _ _ _ (by omega) (by omega) (by omega)) ms_X8_98 (by decide) dX8_told_4 rfl rfl (Nat.le_of_ble_eq_true rfl) (fun z4 h4 => ?_)
  refine R_if_eq hB 29 (by rw [h4]; split <;> omega) dX8_told_7 rfl (fun h7 => ?_) (fun h7 => ?_)
  · have hc : ¬ (0 ≤ a ∧ a ≤ 7) := fun q => by
      rw [if_pos q] at h4
      omega
    refine R_bipush hB dX8_told_29 rfl ?_
    exact R_iret hB hE rfl dX8_told_31 (Or.inl ⟨by omega, rfl, rfl⟩)
  · have hc : 0 ≤ a ∧ a ≤ 7 := by
      by_cases q : 0 ≤ a ∧ a ≤ 7
      · exact q
      · rw [if_neg q] at h4; omega
    refine R_iload_n hB (j := 2) dX8_told_10 rfl rfl ?_
    refine R_iconst hB dX8_told_11 ?_
    refine R_iconst hB dX8_told_12 ?_
    refine P_cS1 hB (s_in _ _ _ (by omega) (by omega) (by omega)) ms_X8_98 (by decide) dX8_told_13 rfl rfl (Nat.le_of_ble_eq_true rfl) (fun z13 h13 => ?_)
    refine R_if_eq hB 29 (by rw [h13]; split <;> omega) dX8_told_16 rfl (fun h16 => ?_) (fun h16 => ?_)
    · have hd : ¬ (0 ≤ b ∧ b ≤ 3) := fun q => by
        rw [if_pos q] at h13
        omega
      refine R_bipush hB dX8_told_29 rfl ?_
      exact R_iret hB hE rfl dX8_told_31 (Or.inl ⟨by omega, rfl, rfl⟩)
    · have hd : 0 ≤ b ∧ b ≤ 3 := by
        by_cases q : 0 ≤ b ∧ b ≤ 3
        · exact q
        · rw [if_neg q] at h13; omega
      refine R_iload_n hB (j := 3) dX8_told_19 rfl rfl ?_
      refine R_iconst hB dX8_told_20 ?_
      refine R_bipush hB dX8_told_21 rfl ?_
      refine P_cS1 hB (s_in _ _ _ (by omega) (by omega) (by omega)) ms_X8_98 (by decide) dX8_told_23 rfl rfl (Nat.le_of_ble_eq_true rfl) (fun z23 h23 => ?_)
      refine R_if_ne hB 32 (by rw [h23]; split <;> omega) dX8_told_26 rfl (fun h26 => ?_) (fun h26 => ?_)
      · have he : 0 ≤ c ∧ c ≤ 8 := by
          by_cases q : 0 ≤ c ∧ c ≤ 8
          · exact q
          · rw [if_neg q] at h23; omega
        refine R_aload_n hB (j := 0) dX8_told_32 rfl rfl ?_
        refine R_geti hB fl_X8_235 dX8_told_33 rfl ?_
        refine R_bipush hB dX8_told_36 rfl ?_
        refine R_icmp_ne hB 44 (by omega) (by omega) dX8_told_38 rfl (fun h38 => ?_) (fun h38 => ?_)
        · refine R_aload_n hB (j := 0) dX8_told_44 rfl rfl ?_
          refine R_getr hB (68) fl_X8_56 dX8_told_45 rfl rfl ?_
          refine R_aload_n hB (j := 0) dX8_told_48 rfl rfl ?_
          refine R_geti hB fl_X8_235 dX8_told_49 rfl ?_
          refine R_iload_n hB (j := 1) dX8_told_52 rfl rfl ?_
          refine N_iast hB rfl (by omega) (by omega) dX8_told_53 (fun σ1 e1 => ?_)
          have k1 : σ1 1 = σ 1 := by rw [e1, up_row (by decide)]
          refine R_aload_n hB (j := 0) dX8_told_54 rfl rfl ?_
          refine R_getr hB (69) fl_X8_59 dX8_told_55 rfl rfl ?_
          refine R_aload_n hB (j := 0) dX8_told_58 rfl rfl ?_
          refine R_geti hB fl_X8_235 dX8_told_59 rfl ?_
          refine R_iload_n hB (j := 2) dX8_told_62 rfl rfl ?_
          refine N_iast hB rfl (by rw [k1]; omega) (by omega) dX8_told_63 (fun σ2 e2 => ?_)
          have k2 : σ2 1 = σ 1 := by rw [e2, up_row (by decide), k1]
          refine R_aload_n hB (j := 0) dX8_told_64 rfl rfl ?_
          refine R_getr hB (70) fl_X8_62 dX8_told_65 rfl rfl ?_
          refine R_aload_n hB (j := 0) dX8_told_68 rfl rfl ?_
          refine R_geti hB fl_X8_235 dX8_told_69 rfl ?_
          refine R_iload_n hB (j := 3) dX8_told_72 rfl rfl ?_
          refine N_iast hB rfl (by rw [k2]; omega) (by omega) dX8_told_73 (fun σ3 e3 => ?_)
          have k3 : σ3 1 = σ 1 := by rw [e3, up_row (by decide), k2]
          refine R_aload_n hB (j := 0) dX8_told_74 rfl rfl ?_
          refine R_dup hB dX8_told_75 rfl ?_
          refine R_geti hB fl_X8_235 dX8_told_76 rfl ?_
          refine R_iconst hB dX8_told_79 ?_
          refine R_iadd hB dX8_told_80 ?_
          refine N_puti hB fp_X8_235 dX8_told_81 rfl (by rw [k3]; omega) (fun σ4 e4 => ?_)
          refine R_aload_n hB (j := 0) dX8_told_84 rfl rfl ?_
          refine R_geti hB fl_X8_235 dX8_told_85 rfl ?_
          exact R_iret hB hE rfl dX8_told_88 (Or.inr (Or.inr ⟨by omega, by omega, by rw [e4, up_s, k3], by rw [e4, k3, e3, k2, e2, k1, e1]; rfl⟩))
        · refine R_bipush hB dX8_told_41 rfl ?_
          exact R_iret hB hE rfl dX8_told_43 (Or.inr (Or.inl ⟨by omega, h38, rfl, rfl⟩))
      · have he : ¬ (0 ≤ c ∧ c ≤ 8) := fun q => by
          rw [if_pos q] at h23
          omega
        refine R_bipush hB dX8_told_29 rfl ?_
        exact R_iret hB hE rfl dX8_told_31 (Or.inl ⟨by omega, rfl, rfl⟩)

theorem s_mforget {Θ : Th} {σ : Mem}  : Spc Θ M_X8_forget 1 [.ref (Th.r Θ 1)] σ (fun r σ' => r = σ 1 22 ∧ σ' = up σ 1 22 0) := by
  refine Spc_of (by decide +kernel) (Nat.le_of_ble_eq_true rfl) (fun Γ hB hE => ?_)
  show Run Θ Γ 0 [(0, .ref (Th.r Θ 1))] [] σ
  refine R_aload_n hB (j := 0) dX8_forget_0 rfl rfl ?_
  refine R_geti hB fl_X8_235 dX8_forget_1 rfl ?_
  refine R_istore_n hB (L' := [_, _]) dX8_forget_4 rfl (Nat.le_of_ble_eq_true rfl) rfl ?_
  refine R_aload_n hB (j := 1) dX8_forget_5 rfl rfl ?_
  refine R_iconst hB dX8_forget_6 ?_
  refine N_puti hB fp_X8_235 dX8_forget_7 rfl (by omega) (fun σ1 e1 => ?_)
  refine R_iload_n hB (j := 0) dX8_forget_10 rfl rfl ?_
  exact R_iret hB hE rfl dX8_forget_11 (⟨rfl, e1⟩)

theorem s_meets {Θ : Th} {σ : Mem} (n : Int) (hn : 0 ≤ n ∧ n < 100) : Spc Θ M_X8_meets 1 [.ref (Th.r Θ 1), .int (I n)] σ (fun r σ' => r = -10 - n ∧ σ' = up σ 1 33 n) := by
  refine Spc_of (by decide +kernel) (Nat.le_of_ble_eq_true rfl) (fun Γ hB hE => ?_)
  show Run Θ Γ 0 [(0, .ref (Th.r Θ 1)), (1, .int (I n))] [] σ
  refine R_aload_n hB (j := 0) dX8_meets_0 rfl rfl ?_
  refine R_iload_n hB (j := 1) dX8_meets_1 rfl rfl ?_
  refine N_puti hB fp_X8_282 dX8_meets_2 rfl (by omega) (fun σ1 e1 => ?_)
  refine R_bipush hB dX8_meets_5 rfl ?_
  refine R_iload_n hB (j := 1) dX8_meets_7 rfl rfl ?_
  refine R_isub hB dX8_meets_8 ?_
  exact R_iret hB hE rfl dX8_meets_9 (⟨rfl, e1⟩)

theorem s_mread {Θ : Th} {σ : Mem} (s : Int) (hs : rng s) (hn : 0 ≤ σ 1 22 ∧ σ 1 22 ≤ 8) (hS : ∀ s, 0 ≤ s → s < 4 → (σ 73 s = 0 ∨ σ 73 s = 1) ∧ (0 ≤ σ 74 s ∧ σ 74 s < 3) ∧ (0 ≤ σ 75 s ∧ σ 75 s ≤ 60)) : Spc Θ M_X8_read 1 [.ref (Th.r Θ 1), .int (I s)] σ (fun r σ' => (¬ (0 ≤ s ∧ s < 4) ∧ r = -2 ∧ σ' = σ) ∨ ((0 ≤ s ∧ s < 4) ∧ σ 73 s = 0 ∧ r = -10 - 1 ∧ σ' = up σ 1 33 1) ∨ ((0 ≤ s ∧ s < 4) ∧ σ 73 s ≠ 0 ∧ RdQ (fun i => σ 76 (60 * s + i)) (σ 75 s) (σ 1 22) r ∧ RdM σ σ' (fun i => σ 76 (60 * s + i)) r)) := by
  refine Spc_of (by decide +kernel) (Nat.le_of_ble_eq_true rfl) (fun Γ hB hE => ?_)
  show Run Θ Γ 0 [(0, .ref (Th.r Θ 1)), (1, .int (I s))] [] σ
  refine R_iload_n hB (j := 1) dX8_read_0 rfl rfl ?_
  refine P_cS1 hB (s_misSheet _ (by omega)) ms_X8_238 (by decide) dX8_read_1 rfl rfl (Nat.le_of_ble_eq_true rfl) (fun z1 h1 => ?_)
  refine R_if_ne hB 10 (by rw [h1]; split <;> omega) dX8_read_4 rfl (fun h4 => ?_) (fun h4 => ?_)
  · have hc : 0 ≤ s ∧ s < 4 := by
      by_cases q : 0 ≤ s ∧ s < 4
      · exact q
      · rw [if_neg q] at h1; omega
    have hS1 := hS s hc.1 hc.2
    refine R_aload_n hB (j := 0) dX8_read_10 rfl rfl ?_
    refine R_getr hB (73) fl_X8_71 dX8_read_11 rfl rfl ?_
    refine R_iload_n hB (j := 1) dX8_read_14 rfl rfl ?_
    refine R_zald hB rfl (by omega) dX8_read_15 ?_
    refine R_if_ne hB 25 (by omega) dX8_read_16 rfl (fun h16 => ?_) (fun h16 => ?_)
    · refine R_iconst hB dX8_read_25 ?_
      refine R_istore_n hB (L' := [_, _, _]) dX8_read_26 rfl (Nat.le_of_ble_eq_true rfl) rfl ?_
      have lp_27 : ∀ (n_27 : Nat) (k : Int) (σ1 : Mem), ((60 - k).toNat) < n_27 → (0 ≤ k ∧ σ 1 22 + k ≤ 8) → (∀ j, 0 ≤ j → j < k → RdOk (fun i => σ 76 (60 * s + i)) (σ 75 s) (σ 1 22) j) → (RdM σ σ1 (fun i => σ 76 (60 * s + i)) k) → Run Θ Γ 27 [(0, .ref (Th.r Θ 1)), (1, .int (I s)), (2, .int (I k))] [] σ1 := by
        intro n_27
        induction n_27 with
        | zero => intro k σ1 h_m; exact absurd h_m (Nat.not_lt_zero _)
        | succ n_27 ih_27 =>
          intro k σ1 h_m hk hal hR
          have k75 : σ1 75 = σ 75 := hR.1 75 (by decide)
          have k76 : σ1 76 = σ 76 := hR.1 76 (by decide)
          have n22 : σ1 1 22 = σ 1 22 + k := hR.2.2.1
          refine R_canon (fun hcn => ?_)
          have q76 : ∀ x, rng (σ1 76 x) := fun x => hcn.i 76 x (by decide) (by decide) (by decide)
          refine R_iconst hB dX8_read_27 ?_
          refine R_iload_n hB (j := 2) dX8_read_28 rfl rfl ?_
          refine R_imul hB dX8_read_29 ?_
          refine R_iconst hB dX8_read_30 ?_
          refine R_iadd hB dX8_read_31 ?_
          refine R_aload_n hB (j := 0) dX8_read_32 rfl rfl ?_
          refine R_getr hB (75) fl_X8_77 dX8_read_33 rfl rfl ?_
          refine R_iload_n hB (j := 1) dX8_read_36 rfl rfl ?_
          refine R_iald hB rfl (by omega) dX8_read_37 ?_
          refine R_icmp_ge hB 97 (by omega) (by rw [k75]; omega) dX8_read_38 rfl (fun h38 => ?_) (fun h38 => ?_)
          · rw [k75] at h38
            refine R_iload_n hB (j := 2) dX8_read_97 rfl rfl ?_
            exact R_iret hB hE rfl dX8_read_98 (by
              first
              | exact Or.inr (Or.inr ⟨hc, h16, ⟨hk.1, hal, fun q => hno.2 ⟨q.2.2, q.2.1⟩⟩, by rw [hno.1]; exact hR⟩)
              | exact Or.inr (Or.inr ⟨hc, h16, ⟨hk.1, hal, fun q => by have := q.1; omega⟩, hR⟩))
          · rw [k75] at h38
            refine R_aload_n hB (j := 0) dX8_read_41 rfl rfl ?_
            refine R_aload_n hB (j := 0) dX8_read_42 rfl rfl ?_
            refine R_getr hB (76) fl_X8_80 dX8_read_43 rfl rfl ?_
            refine R_bipush hB dX8_read_46 rfl ?_
            refine R_iload_n hB (j := 1) dX8_read_48 rfl rfl ?_
            refine R_imul hB dX8_read_49 ?_
            refine R_iconst hB dX8_read_50 ?_
            refine R_iload_n hB (j := 2) dX8_read_51 rfl rfl ?_
            refine R_imul hB dX8_read_52 ?_
            refine R_iadd hB dX8_read_53 ?_
            refine R_iald hB rfl (by omega) dX8_read_54 ?_
            refine R_aload_n hB (j := 0) dX8_read_55 rfl rfl ?_
            refine R_getr hB (76) fl_X8_80 dX8_read_56 rfl rfl ?_
            refine R_bipush hB dX8_read_59 rfl ?_
            refine R_iload_n hB (j := 1) dX8_read_61 rfl rfl ?_
            refine R_imul hB dX8_read_62 ?_
            refine R_iconst hB dX8_read_63 ?_
            refine R_iload_n hB (j := 2) dX8_read_64 rfl rfl ?_
            refine R_imul hB dX8_read_65 ?_
            refine R_iadd hB dX8_read_66 ?_
            refine R_iconst hB dX8_read_67 ?_
            refine R_iadd hB dX8_read_68 ?_
            refine R_iald hB rfl (by omega) dX8_read_69 ?_
            refine R_aload_n hB (j := 0) dX8_read_70 rfl rfl ?_
            refine R_getr hB (76) fl_X8_80 dX8_read_71 rfl rfl ?_
            refine R_bipush hB dX8_read_74 rfl ?_
            refine R_iload_n hB (j := 1) dX8_read_76 rfl rfl ?_
            refine R_imul hB dX8_read_77 ?_
            refine R_iconst hB dX8_read_78 ?_
            refine R_iload_n hB (j := 2) dX8_read_79 rfl rfl ?_
            refine R_imul hB dX8_read_80 ?_
            refine R_iadd hB dX8_read_81 ?_
            refine R_iconst hB dX8_read_82 ?_
            refine R_iadd hB dX8_read_83 ?_
            refine R_iald hB rfl (by omega) dX8_read_84 ?_
            refine R_cV1 hB (s_mtold _ _ _ (q76 _) (q76 _) (q76 _) (by rw [n22]; omega)) mv_X8_244 rfl rfl (by decide) dX8_read_85 rfl rfl (Nat.le_of_ble_eq_true rfl) (fun z85 σ2 h85 => ?_)
            rw [n22, k76, show (60 * s + 3 * k + 1 : Int) = 60 * s + (3 * k + 1) by omega, show (60 * s + 3 * k + 2 : Int) = 60 * s + (3 * k + 2) by omega] at h85
            refine R_if_le hB 97 (by rcases h85 with ⟨_, q, _⟩ | ⟨_, _, q, _⟩ | ⟨_, _, q, _⟩ <;> omega) dX8_read_88 rfl (fun h88 => ?_) (fun h88 => ?_)
            · have hno : σ2 = σ1 ∧ ¬ (tokP (σ 76 (60 * s + 3 * k)) (σ 76 (60 * s + (3 * k + 1))) (σ 76 (60 * s + (3 * k + 2))) ∧ σ 1 22 + k < 8) := by
                rcases h85 with ⟨q1, q2, q3⟩ | ⟨q1, q2, q3, q4⟩ | ⟨q1, q2, q3, q4⟩
                · exact ⟨q3, fun w => q1 w.1⟩
                · exact ⟨q4, fun w => by have := w.2; omega⟩
                · exfalso; omega
              refine R_iload_n hB (j := 2) dX8_read_97 rfl rfl ?_
              exact R_iret hB hE rfl dX8_read_98 (by
                first
                | exact Or.inr (Or.inr ⟨hc, h16, ⟨hk.1, hal, fun q => hno.2 ⟨q.2.2, q.2.1⟩⟩, by rw [hno.1]; exact hR⟩)
                | exact Or.inr (Or.inr ⟨hc, h16, ⟨hk.1, hal, fun q => by have := q.1; omega⟩, hR⟩))
            · have hw : tokP (σ 76 (60 * s + 3 * k)) (σ 76 (60 * s + (3 * k + 1))) (σ 76 (60 * s + (3 * k + 2))) ∧ σ 1 22 + k < 8 ∧ σ2 = tlM σ1 (σ 76 (60 * s + 3 * k)) (σ 76 (60 * s + (3 * k + 1))) (σ 76 (60 * s + (3 * k + 2))) := by
                rcases h85 with ⟨q1, q2, q3⟩ | ⟨q1, q2, q3, q4⟩ | ⟨q1, q2, q3, q4⟩
                · exfalso; omega
                · exfalso; omega
                · exact ⟨q1, q2, q4⟩
              refine R_iinc hB (j := 2) (L' := [_, _, _]) dX8_read_91 rfl (Nat.le_of_ble_eq_true rfl) rfl ?_
              refine R_goto hB 27 dX8_read_94 rfl ?_
              exact R_sub [1, 2, 0] rfl (ih_27 _ _ (by omega) (by have := hw.2.1; omega) (fun j q1 q2 => by
                by_cases c : j = k
                · rw [c]; exact ⟨by omega, hw.2.1, hw.1⟩
                · exact hal j q1 (by omega)) (RdM_s hR hk.1 hw.2.2))
      exact R_sub [1, 2, 0] rfl (lp_27 _ _ _ (Nat.lt_succ_self _) (by omega) (fun j q1 q2 => by omega) ⟨fun _ _ => rfl, fun _ _ => rfl, by omega, fun j q1 q2 => by omega, fun _ _ => ⟨rfl, rfl, rfl⟩⟩)
    · refine R_aload_n hB (j := 0) dX8_read_19 rfl rfl ?_
      refine R_iconst hB dX8_read_20 ?_
      refine R_cV1 hB (s_meets 1 (by omega)) mv_X8_241 rfl rfl (by decide) dX8_read_21 rfl rfl (Nat.le_of_ble_eq_true rfl) (fun z21 σ9 h21 => ?_)
      exact R_iret hB hE rfl dX8_read_24 (Or.inr (Or.inl ⟨hc, h16, h21.1, h21.2⟩))
  · have hc : ¬ (0 ≤ s ∧ s < 4) := fun q => by
      rw [if_pos q] at h1
      omega
    refine R_bipush hB dX8_read_7 rfl ?_
    exact R_iret hB hE rfl dX8_read_9 (Or.inl ⟨hc, rfl, rfl⟩)

theorem s_isTold {Θ : Th} {σ : Mem} (hN : NPre σ) (hT : 0 ≤ σ 1 22 ∧ σ 1 22 ≤ 8) (ht : ∀ k, 0 ≤ k → k < σ 1 22 → (0 ≤ σ 68 k ∧ σ 68 k < 8) ∧ (0 ≤ σ 69 k ∧ σ 69 k < 4) ∧ (0 ≤ σ 70 k ∧ σ 70 k < 9)) : Spc Θ M_X8_isTold 1 [.ref (Th.r Θ 1)] σ (fun z σ' => Same NS σ σ' ∧ z = if tdB σ (σ 1 22).toNat = true then 1 else 0) := by
  refine Spc_of (by decide +kernel) (Nat.le_of_ble_eq_true rfl) (fun Γ hB hE => ?_)
  show Run Θ Γ 0 [(0, .ref (Th.r Θ 1))] [] σ
  refine R_aload_n hB (j := 0) dX8_isTold_0 rfl rfl ?_
  refine R_cV0 hB (s_runs hN) mv_X8_174 rfl rfl (by decide) dX8_isTold_1 rfl rfl (Nat.le_of_ble_eq_true rfl) (fun σ1 h1 => ?_)
  have k1 : σ1 1 = σ 1 := h1.1 1 (by decide)
  have k68 : σ1 68 = σ 68 := h1.1 68 (by decide)
  have k69 : σ1 69 = σ 69 := h1.1 69 (by decide)
  have k70 : σ1 70 = σ 70 := h1.1 70 (by decide)
  have hn2 := hN.1
  have hn7 := hN.2.1
  refine R_iconst hB dX8_isTold_4 ?_
  refine R_istore_n hB (L' := [_, _]) dX8_isTold_5 rfl (Nat.le_of_ble_eq_true rfl) rfl ?_
  refine R_iconst hB dX8_isTold_6 ?_
  refine R_istore_n hB (L' := [_, _, _]) dX8_isTold_7 rfl (Nat.le_of_ble_eq_true rfl) rfl ?_
  have lp_8 : ∀ (n_8 : Nat) (b k : Int), ((σ 1 22 - k).toNat) < n_8 → (0 ≤ k ∧ k ≤ σ 1 22) → (b = if tdB σ k.toNat = true then 1 else 0) → Run Θ Γ 8 [(0, .ref (Th.r Θ 1)), (1, .int (I b)), (2, .int (I k))] [] σ1 := by
    intro n_8
    induction n_8 with
    | zero => intro b k h_m; exact absurd h_m (Nat.not_lt_zero _)
    | succ n_8 ih_8 =>
      intro b k h_m hk hb
      have hb01 : b = 0 ∨ b = 1 := by rw [hb]; split <;> omega
      refine R_iload_n hB (j := 2) dX8_isTold_8 rfl rfl ?_
      refine R_aload_n hB (j := 0) dX8_isTold_9 rfl rfl ?_
      refine R_geti hB fl_X8_235 dX8_isTold_10 rfl ?_
      refine R_icmp_ge hB 70 (by omega) (by rw [k1]; omega) dX8_isTold_13 rfl (fun h13 => ?_) (fun h13 => ?_)
      · rw [k1] at h13
        refine R_iload_n hB (j := 1) dX8_isTold_70 rfl rfl ?_
        exact R_zret hB hE rfl (by rcases hb01 with q | q <;> rw [q] <;> rfl) dX8_isTold_71 (by
          first
          | exact ⟨h1.1, by rw [hb, show k = σ 1 22 by omega]⟩
          | (refine ⟨h1.1, ?_⟩
             have := tdB_f htd ((σ 1 22).toNat - k.toNat)
             rw [show k.toNat + ((σ 1 22).toNat - k.toNat) = (σ 1 22).toNat by omega] at this
             rw [this, hb, htd]))
      · rw [k1] at h13
        have htk := ht k hk.1 (by omega)
        refine R_iload_n hB (j := 1) dX8_isTold_16 rfl rfl ?_
        refine R_if_eq hB 70 (by omega) dX8_isTold_17 rfl (fun h17 => ?_) (fun h17 => ?_)
        · have htd : tdB σ k.toNat = false := by
            cases c : tdB σ k.toNat with
            | false => rfl
            | true => rw [c] at hb; simp at hb; omega
          refine R_iload_n hB (j := 1) dX8_isTold_70 rfl rfl ?_
          exact R_zret hB hE rfl (by rcases hb01 with q | q <;> rw [q] <;> rfl) dX8_isTold_71 (by
            first
            | exact ⟨h1.1, by rw [hb, show k = σ 1 22 by omega]⟩
            | (refine ⟨h1.1, ?_⟩
               have := tdB_f htd ((σ 1 22).toNat - k.toNat)
               rw [show k.toNat + ((σ 1 22).toNat - k.toNat) = (σ 1 22).toNat by omega] at this
               rw [this, hb, htd]))
        · have htd : tdB σ k.toNat = true := by
            cases c : tdB σ k.toNat with
            | true => rfl
            | false => rw [c] at hb; simp at hb; omega
          refine R_aload_n hB (j := 0) dX8_isTold_20 rfl rfl ?_
          refine R_getr hB (68) fl_X8_56 dX8_isTold_21 rfl rfl ?_
          refine R_iload_n hB (j := 2) dX8_isTold_24 rfl rfl ?_
          refine R_iald hB rfl (by omega) dX8_isTold_25 ?_
          refine R_aload_n hB (j := 0) dX8_isTold_26 rfl rfl ?_
          refine R_geti hB fl_X8_114 dX8_isTold_27 rfl ?_
          have jn_63 : ∀ (x : Int), (x = if (decide (σ 68 k < σ 1 2) && decide (mcn σ (σ 68 k) 3 (fun d => decide (σ 61 d = σ 69 k)) (mE σ 50) = σ 70 k)) = true then 1 else 0) → Run Θ Γ 63 [(0, .ref (Th.r Θ 1)), (1, .int (I b)), (2, .int (I k))] [.int (I x)] σ1 := by
            intro x hx
            refine R_istore_n hB (L' := [_, _, _]) dX8_isTold_63 rfl (Nat.le_of_ble_eq_true rfl) rfl ?_
            refine R_iinc hB (j := 2) (L' := [_, _, _]) dX8_isTold_64 rfl (Nat.le_of_ble_eq_true rfl) rfl ?_
            refine R_goto hB 8 dX8_isTold_67 rfl ?_
            exact R_sub [2, 1, 0] rfl (ih_8 _ _ (by omega) (by omega) (by rw [hx, show (k + 1).toNat = k.toNat + 1 by omega, tdB_s, htd, Bool.true_and, show ((k.toNat : Nat) : Int) = k by omega]))
          refine R_icmp_ge hB 62 (by rw [k68]; omega) (by rw [k1]; omega) dX8_isTold_30 rfl (fun h30 => ?_) (fun h30 => ?_)
          · rw [k68, k1] at h30
            refine R_iconst hB dX8_isTold_62 ?_
            exact R_sub [0, 1, 2] rfl (jn_63 _ (by
              by_cases c : σ 68 k < σ 1 2
              · rw [decide_eq_true c, decide_eq_false (fun q => by first | (exfalso; omega) | (rw [← hmc] at q; omega))]; rfl
              · rw [decide_eq_false c]; rfl))
          · rw [k68, k1] at h30
            refine R_aload_n hB (j := 0) dX8_isTold_33 rfl rfl ?_
            refine R_aload_n hB (j := 0) dX8_isTold_34 rfl rfl ?_
            refine R_getr hB (68) fl_X8_56 dX8_isTold_35 rfl rfl ?_
            refine R_iload_n hB (j := 2) dX8_isTold_38 rfl rfl ?_
            refine R_iald hB rfl (by omega) dX8_isTold_39 ?_
            refine R_aload_n hB (j := 0) dX8_isTold_40 rfl rfl ?_
            refine R_getr hB (69) fl_X8_59 dX8_isTold_41 rfl rfl ?_
            refine R_iload_n hB (j := 2) dX8_isTold_44 rfl rfl ?_
            refine R_iald hB rfl (by omega) dX8_isTold_45 ?_
            refine P_cV1 hB (s_marksOf _ _ (by rw [k68]; omega) (by rw [k69]; omega) (by rw [k1]; exact hn7)) mv_X8_247 rfl rfl (by decide) dX8_isTold_46 rfl rfl (Nat.le_of_ble_eq_true rfl) (fun z46 h46 => ?_)
            rw [k68, k69, h1.mk (by omega) (by omega)] at h46
            have hmc : z46 = mcn σ (σ 68 k) 3 (fun d => decide (σ 61 d = σ 69 k)) (mE σ 50) := by
              rw [h46]
              have e : (fun d => decide (σ 69 k = -1 ∨ σ 61 d = σ 69 k)) = (fun d => decide (σ 61 d = σ 69 k)) := by
                funext d
                rw [decide_eq_decide]
                omega
              rw [e]
            have hcb := cnL_in (z := mz σ (σ 68 k)) (hr := σ 59) (ho := σ 60) (so := σ 61) 3 (fun d => decide (σ 61 d = σ 69 k)) (mE σ 50) (σ 56 (σ 68 k))
            have hlen : (mE σ 50).length ≤ 8 := by
              have a := List.length_filter_le (mP σ) (evs (σ 59) (σ 1 7).toNat 50)
              have b := evs_len (σ 59) (σ 1 7).toNat 50
              unfold mE
              omega
            have hcb2 : 0 ≤ z46 ∧ z46 ≤ (mE σ 50).length := by rw [hmc]; exact hcb
            refine R_aload_n hB (j := 0) dX8_isTold_49 rfl rfl ?_
            refine R_getr hB (70) fl_X8_62 dX8_isTold_50 rfl rfl ?_
            refine R_iload_n hB (j := 2) dX8_isTold_53 rfl rfl ?_
            refine R_iald hB rfl (by omega) dX8_isTold_54 ?_
            refine R_icmp_ne hB 62 (by omega) (by rw [k70]; omega) dX8_isTold_55 rfl (fun h55 => ?_) (fun h55 => ?_)
            · rw [k70] at h55
              refine R_iconst hB dX8_isTold_62 ?_
              exact R_sub [0, 1, 2] rfl (jn_63 _ (by
                by_cases c : σ 68 k < σ 1 2
                · rw [decide_eq_true c, decide_eq_false (fun q => by first | (exfalso; omega) | (rw [← hmc] at q; omega))]; rfl
                · rw [decide_eq_false c]; rfl))
            · rw [k70] at h55
              refine R_iconst hB dX8_isTold_58 ?_
              refine R_goto hB 63 dX8_isTold_59 rfl ?_
              exact R_sub [0, 1, 2] rfl (jn_63 _ (by rw [decide_eq_true (show σ 68 k < σ 1 2 by omega), decide_eq_true (show mcn σ (σ 68 k) 3 (fun d => decide (σ 61 d = σ 69 k)) (mE σ 50) = σ 70 k by rw [← hmc]; omega)]; rfl))
  exact R_sub [2, 1, 0] rfl (lp_8 _ _ _ (Nat.lt_succ_self _) (by omega) rfl)

theorem s_neverNow {Θ : Th} {σ : Mem} (h : InvC σ) (hR : Rel σ) (hTa : TaR σ) : Spc Θ M_X8_neverNow 1 [.ref (Th.r Θ 1)] σ (fun r σ' => FrM σ σ' ∧ RR σ' ∧ r = bsum (nvB σ) (σ 2 4).toNat ∧ σ' 1 15 = 0) := by
  refine Spc_of (by decide +kernel) (Nat.le_of_ble_eq_true rfl) (fun Γ hB hE => ?_)
  show Run Θ Γ 0 [(0, .ref (Th.r Θ 1))] [] σ
  have hns := h.ns
  have hds := h.row.1
  refine R_aload_n hB (j := 0) dX8_neverNow_0 rfl rfl ?_
  refine R_cV0 hB (s_asTold h hR) mv_X8_171 rfl rfl (by decide) dX8_neverNow_1 rfl rfl (Nat.le_of_ble_eq_true rfl) (fun σ1 h1 => ?_)
  obtain ⟨f1, f2, f3, f4⟩ := h1
  have r0 : σ1 0 = σ 0 := f1.1 0 (by decide)
  have r2 : σ1 2 = σ 2 := f1.1 2 (by decide)
  have n2 : σ1 1 2 = σ 0 2 := by rw [f2.2.2.1, r0]
  have n7 : σ1 1 7 = σ 2 4 := by rw [f2.2.2.2.1, r2]
  refine R_iconst hB dX8_neverNow_4 ?_
  refine R_istore_n hB (L' := [_, _]) dX8_neverNow_5 rfl (Nat.le_of_ble_eq_true rfl) rfl ?_
  refine R_iconst hB dX8_neverNow_6 ?_
  refine R_istore_n hB (L' := [_, _, _]) dX8_neverNow_7 rfl (Nat.le_of_ble_eq_true rfl) rfl ?_
  have lp_8 : ∀ (n_8 : Nat) (b d : Int) (σ2 : Mem), ((σ 2 4 - d).toNat) < n_8 → (0 ≤ d ∧ d ≤ σ 2 4) → (FrM σ σ2) → (RR σ2) → (σ2 1 15 = 0) → (b = bsum (nvB σ) d.toNat) → Run Θ Γ 8 [(0, .ref (Th.r Θ 1)), (1, .int (I b)), (2, .int (I d))] [] σ2 := by
    intro n_8
    induction n_8 with
    | zero => intro b d σ2 h_m; exact absurd h_m (Nat.not_lt_zero _)
    | succ n_8 ih_8 =>
      intro b d σ2 h_m hd F2 R2 M2 hb
      have p7 : σ2 1 7 = σ 2 4 := by rw [R2.2.2.2.1, F2.1 2 (by decide)]
      have hbb := bsum_in (nvB σ) d.toNat
      rw [← hb] at hbb
      have h256 := p2_256 d.toNat (by omega)
      refine R_iload_n hB (j := 2) dX8_neverNow_8 rfl rfl ?_
      refine R_aload_n hB (j := 0) dX8_neverNow_9 rfl rfl ?_
      refine R_geti hB fl_X8_117 dX8_neverNow_10 rfl ?_
      refine R_icmp_ge hB 46 (by omega) (by rw [p7]; omega) dX8_neverNow_13 rfl (fun h13 => ?_) (fun h13 => ?_)
      · rw [p7] at h13
        refine R_iload_n hB (j := 1) dX8_neverNow_46 rfl rfl ?_
        exact R_iret hB hE rfl dX8_neverNow_47 (⟨F2, R2, by rw [hb]; congr 1; omega, M2⟩)
      · rw [p7] at h13
        have p2d := p2_8 d.toNat (by omega)
        have p2e := p2_pos d.toNat
        refine R_aload_n hB (j := 0) dX8_neverNow_16 rfl rfl ?_
        refine R_iconst hB dX8_neverNow_17 ?_
        refine R_iload_n hB (j := 2) dX8_neverNow_18 rfl rfl ?_
        refine R_ishl hB (2 ^ d.toNat) (i_shl1z (by omega)) dX8_neverNow_19 ?_
        refine N_puti hB fp_X8_154 dX8_neverNow_20 rfl (by omega) (fun σ3 e3 => ?_)
        have R3 : RR σ3 := by rw [e3]; exact R2.fld (by decide)
        have F3 : FrM σ σ3 := F2.tr (by rw [e3]; exact FrM.fld (by decide))
        have T3 : TaR σ3 := hTa.mm F3
        have m14 : σ3 1 14 = 2 ^ d.toNat := by rw [e3, up_s]
        have m15 : σ3 1 15 = 0 := by rw [e3, up_n (by decide)]; exact M2
        have tok := TaR.ok R3.1 T3
        refine R_iload_n hB (j := 1) dX8_neverNow_23 rfl rfl ?_
        refine R_aload_n hB (j := 0) dX8_neverNow_24 rfl rfl ?_
        refine R_cV1 hB (s_isTold (R3.npre (by rw [m14]; omega) (by rw [m15]; omega)) tok.1 tok.2) mv_X8_250 rfl rfl (by decide) dX8_neverNow_25 rfl rfl (Nat.le_of_ble_eq_true rfl) (fun z25 σ4 h25 => ?_)
        obtain ⟨j1, j2⟩ := h25
        rw [td_never R3 T3 m14 (by rw [F3.1 2 (by decide)]; omega), mm_nvB F3.1 hns.2] at j2
        have R4 := R3.ns j1
        have F4 := F3.tr (FrM.ns j1)
        have M4 : σ4 1 15 = 0 := by rw [j1 1 (by decide)]; exact m15
        have jn_38 : ∀ (x : Int), (x = if nvB σ d.toNat = true then 2 ^ d.toNat else 0) → Run Θ Γ 38 [(0, .ref (Th.r Θ 1)), (1, .int (I b)), (2, .int (I d))] [.int (I x), .int (I b)] σ4 := by
          intro x hx
          refine R_ior hB (b + x) (by rw [hx]; split <;> first | (rw [i_oradd (by omega) (by omega)]) | (rw [i_or (by omega) (by omega)]; congr 1; unfold orZ; simp; omega)) dX8_neverNow_38 ?_
          refine R_istore_n hB (L' := [_, _, _]) dX8_neverNow_39 rfl (Nat.le_of_ble_eq_true rfl) rfl ?_
          refine R_iinc hB (j := 2) (L' := [_, _, _]) dX8_neverNow_40 rfl (Nat.le_of_ble_eq_true rfl) rfl ?_
          refine R_goto hB 8 dX8_neverNow_43 rfl ?_
          exact R_sub [2, 1, 0] rfl (ih_8 _ _ _ (by omega) (by omega) F4 R4 M4 (by rw [bsum_kn _ hd.1, ← hb, hx]))
        refine R_if_eq hB 37 (by rw [j2]; split <;> omega) dX8_neverNow_28 rfl (fun h28 => ?_) (fun h28 => ?_)
        · refine R_iconst hB dX8_neverNow_37 ?_
          exact R_sub [0, 1, 2] rfl (jn_38 _ (by
            cases c : nvB σ d.toNat with
            | false => rfl
            | true => rw [c] at j2; simp at j2; omega))
        · refine R_iconst hB dX8_neverNow_31 ?_
          refine R_iload_n hB (j := 2) dX8_neverNow_32 rfl rfl ?_
          refine R_ishl hB (2 ^ d.toNat) (i_shl1z (by omega)) dX8_neverNow_33 ?_
          refine R_goto hB 38 dX8_neverNow_34 rfl ?_
          exact R_sub [0, 1, 2] rfl (jn_38 _ (by
            cases c : nvB σ d.toNat with
            | true => rfl
            | false => rw [c] at j2; simp at j2; omega))
  exact R_sub [2, 1, 0] rfl (lp_8 _ _ _ _ (Nat.lt_succ_self _) (by omega) f1 f2 f4 rfl)

theorem s_mnever {Θ : Th} {σ : Mem} (h : InvC σ) (hR : Rel σ) (hTa : TaR σ) : Spc Θ M_X8_never 1 [.ref (Th.r Θ 1)] σ (fun r σ' => FrM σ σ' ∧ RR σ' ∧ r = bsum (nvB σ) (σ 2 4).toNat) := by
  refine Spc_of (by decide +kernel) (Nat.le_of_ble_eq_true rfl) (fun Γ hB hE => ?_)
  show Run Θ Γ 0 [(0, .ref (Th.r Θ 1))] [] σ
  refine R_aload_n hB (j := 0) dX8_never_0 rfl rfl ?_
  refine R_cV1 hB (s_neverNow h hR hTa) mv_X8_254 rfl rfl (by decide) dX8_never_1 rfl rfl (Nat.le_of_ble_eq_true rfl) (fun z1 σ1 h1 => ?_)
  exact R_iret hB hE rfl dX8_never_4 (⟨h1.1, h1.2.1, h1.2.2.1⟩)

theorem s_placeOf {Θ : Th} {σ : Mem} (d : Int) (hd : 0 ≤ d ∧ d < σ 2 4) (h : InvC σ) (hR : Rel σ) (hTa : TaR σ) : Spc Θ M_X8_placeOf 1 [.ref (Th.r Θ 1), .int (I d)] σ (fun r σ' => FrM σ σ' ∧ RR σ' ∧ r = bsum (plB σ d) 10) := by
  refine Spc_of (by decide +kernel) (Nat.le_of_ble_eq_true rfl) (fun Γ hB hE => ?_)
  show Run Θ Γ 0 [(0, .ref (Th.r Θ 1)), (1, .int (I d))] [] σ
  have hns := h.ns
  have hds := h.row.1
  refine R_aload_n hB (j := 0) dX8_placeOf_0 rfl rfl ?_
  refine R_cV0 hB (s_asTold h hR) mv_X8_171 rfl rfl (by decide) dX8_placeOf_1 rfl rfl (Nat.le_of_ble_eq_true rfl) (fun σ1 h1 => ?_)
  obtain ⟨f1, f2, f3, f4⟩ := h1
  have r0 : σ1 0 = σ 0 := f1.1 0 (by decide)
  have r2 : σ1 2 = σ 2 := f1.1 2 (by decide)
  have n2 : σ1 1 2 = σ 0 2 := by rw [f2.2.2.1, r0]
  have n7 : σ1 1 7 = σ 2 4 := by rw [f2.2.2.2.1, r2]
  have hT1 : TaR σ1 := hTa.mm f1
  have hN1 := f2.npre (by omega) (by omega)
  have hrow := hN1.2.2.2.1 d hd.1 (by omega)
  refine R_aload_n hB (j := 0) dX8_placeOf_4 rfl rfl ?_
  refine R_getr hB (60) fl_X8_31 dX8_placeOf_5 rfl rfl ?_
  refine R_iload_n hB (j := 1) dX8_placeOf_8 rfl rfl ?_
  refine R_iald hB rfl (by omega) dX8_placeOf_9 ?_
  refine R_istore_n hB (L' := [_, _, _]) dX8_placeOf_10 rfl (Nat.le_of_ble_eq_true rfl) rfl ?_
  refine R_iconst hB dX8_placeOf_11 ?_
  refine R_istore_n hB (L' := [_, _, _, _]) dX8_placeOf_12 rfl (Nat.le_of_ble_eq_true rfl) rfl ?_
  refine R_iconst hB dX8_placeOf_13 ?_
  refine R_istore hB (L' := [_, _, _, _, _]) dX8_placeOf_14 (Nat.le_of_ble_eq_true rfl) rfl ?_
  have lp_16 : ∀ (n_16 : Nat) (b x : Int) (σ2 : Mem), ((10 - x).toNat) < n_16 → (0 ≤ x ∧ x ≤ 10) → (Same [60, 62, 63, 64, 65, 66] σ1 σ2) → (∀ j, j ≠ d → σ2 60 j = σ1 60 j) → (b = bsum (plB σ d) x.toNat) → Run Θ Γ 16 [(0, .ref (Th.r Θ 1)), (1, .int (I d)), (2, .int (I (σ1 60 (d)))), (3, .int (I b)), (4, .int (I x))] [] σ2 := by
    intro n_16
    induction n_16 with
    | zero => intro b x σ2 h_m; exact absurd h_m (Nat.not_lt_zero _)
    | succ n_16 ih_16 =>
      intro b x σ2 h_m hx0 S2 o2 hb
      have hbb := bsum_in (plB σ d) x.toNat
      rw [← hb] at hbb
      have h1024 := p2_11 x.toNat (by omega)
      refine R_iload hB (j := 4) dX8_placeOf_16 rfl ?_
      refine R_bipush hB dX8_placeOf_18 rfl ?_
      refine R_icmp_ge hB 55 (by omega) (by omega) dX8_placeOf_20 rfl (fun h20 => ?_) (fun h20 => ?_)
      · refine R_aload_n hB (j := 0) dX8_placeOf_55 rfl rfl ?_
        refine R_getr hB (60) fl_X8_31 dX8_placeOf_56 rfl rfl ?_
        refine R_iload_n hB (j := 1) dX8_placeOf_59 rfl rfl ?_
        refine R_iload_n hB (j := 2) dX8_placeOf_60 rfl rfl ?_
        refine N_iast hB rfl (by omega) (by omega) dX8_placeOf_61 (fun σ5 e5 => ?_)
        have S5 : Same [60, 62, 63, 64, 65, 66] σ1 σ5 := S2.tr (T := [60, 62, 63, 64, 65, 66]) (S' := [60, 62, 63, 64, 65, 66]) (by rw [e5]; exact Same.up (by decide)) (fun _ q => q) (fun _ q => q)
        have b5 : σ5 60 = σ1 60 := by
          funext j
          by_cases c : j = d
          · rw [c, e5, up_s]
          · rw [e5, up_n (fun q => c q.2), o2 j c]
        refine R_iload_n hB (j := 3) dX8_placeOf_62 rfl rfl ?_
        exact R_iret hB hE rfl dX8_placeOf_63 (⟨f1.tr (FrM.row 60 (by decide) S5), f2.back 60 (by decide) S5 b5, by rw [hb]; congr 1; omega⟩)
      · have p2d := p2_11 x.toNat (by omega)
        have p2e := p2_pos x.toNat
        refine R_aload_n hB (j := 0) dX8_placeOf_23 rfl rfl ?_
        refine R_getr hB (60) fl_X8_31 dX8_placeOf_24 rfl rfl ?_
        refine R_iload_n hB (j := 1) dX8_placeOf_27 rfl rfl ?_
        refine R_iload hB (j := 4) dX8_placeOf_28 rfl ?_
        refine N_iast hB rfl (by omega) (by omega) dX8_placeOf_30 (fun σ3 e3 => ?_)
        have S3 : Same [60, 62, 63, 64, 65, 66] σ1 σ3 := S2.tr (T := [60, 62, 63, 64, 65, 66]) (S' := [60, 62, 63, 64, 65, 66]) (by rw [e3]; exact Same.up (by decide)) (fun _ q => q) (fun _ q => q)
        have o3 : ∀ j, j ≠ d → σ3 60 j = σ1 60 j := fun j hj => by rw [e3, up_n (fun q => hj q.2), o2 j hj]
        have h3 : σ3 60 d = x := by rw [e3, up_s]
        have F3 : FrM σ1 σ3 := FrM.row 60 (by decide) S3
        have N3 : NPre σ3 := by
          obtain ⟨a1, a2, a3, a4, a5, a6, a7⟩ := hN1
          have mzs : mz σ3 = mz σ1 := by
            funext k i
            unfold mz
            rw [S3 55 (by decide), S3 56 (by decide), S3 57 (by decide), S3 58 (by decide)]
          unfold NPre
          rw [S3 1 (by decide), mzs, S3 59 (by decide), S3 61 (by decide)]
          refine ⟨a1, a2, a3, fun e e1 e2 => ?_, a5, a6, a7⟩
          have := a4 e e1 e2
          by_cases c : e = d
          · rw [c] at this ⊢
            rw [h3]; exact ⟨this.1, by omega, this.2.2⟩
          · rw [o3 e c]; exact this
        have T3 : TaR σ3 := hT1.mm F3
        have tok := TaR.ok (f2.1.mm F3.1) T3
        refine R_iload_n hB (j := 3) dX8_placeOf_31 rfl rfl ?_
        refine R_aload_n hB (j := 0) dX8_placeOf_32 rfl rfl ?_
        refine R_cV1 hB (s_isTold N3 tok.1 tok.2) mv_X8_250 rfl rfl (by decide) dX8_placeOf_33 rfl rfl (Nat.le_of_ble_eq_true rfl) (fun z33 σ4 h33 => ?_)
        obtain ⟨j1, j2⟩ := h33
        rw [td_place f2 hT1 f3 S3 o3 h3 (by rw [r2]; exact hd) hx0.1, mm_plB f1.1 hns.2] at j2
        have S4 : Same [60, 62, 63, 64, 65, 66] σ1 σ4 := S3.tr (T := [60, 62, 63, 64, 65, 66]) j1 (fun _ q => q) (fun i q => by simp only [List.mem_cons, List.not_mem_nil, or_false] at *; omega)
        have o4 : ∀ j, j ≠ d → σ4 60 j = σ1 60 j := fun j hj => by rw [j1 60 (by decide)]; exact o3 j hj
        have jn_47 : ∀ (y : Int), (y = if plB σ d x.toNat = true then 2 ^ x.toNat else 0) → Run Θ Γ 47 [(0, .ref (Th.r Θ 1)), (1, .int (I d)), (2, .int (I (σ1 60 (d)))), (3, .int (I b)), (4, .int (I x))] [.int (I y), .int (I b)] σ4 := by
          intro y hy
          refine R_ior hB (b + y) (by rw [hy]; split <;> first | (rw [i_oradd (by omega) (by omega)]) | (rw [i_or (by omega) (by omega)]; congr 1; unfold orZ; simp; omega)) dX8_placeOf_47 ?_
          refine R_istore_n hB (L' := [_, _, _, _, _]) dX8_placeOf_48 rfl (Nat.le_of_ble_eq_true rfl) rfl ?_
          refine R_iinc hB (j := 4) (L' := [_, _, _, _, _]) dX8_placeOf_49 rfl (Nat.le_of_ble_eq_true rfl) rfl ?_
          refine R_goto hB 16 dX8_placeOf_52 rfl ?_
          exact R_sub [2, 3, 4, 1, 0] rfl (ih_16 _ _ _ (by omega) (by omega) S4 o4 (by rw [bsum_kn _ hx0.1, ← hb, hy]))
        refine R_if_eq hB 46 (by rw [j2]; split <;> omega) dX8_placeOf_36 rfl (fun h36 => ?_) (fun h36 => ?_)
        · refine R_iconst hB dX8_placeOf_46 ?_
          exact R_sub [0, 1, 2, 3, 4] rfl (jn_47 _ (by
            cases c : plB σ d x.toNat with
            | false => rfl
            | true => rw [c] at j2; simp at j2; omega))
        · refine R_iconst hB dX8_placeOf_39 ?_
          refine R_iload hB (j := 4) dX8_placeOf_40 rfl ?_
          refine R_ishl hB (2 ^ x.toNat) (i_shl1z (by omega)) dX8_placeOf_42 ?_
          refine R_goto hB 47 dX8_placeOf_43 rfl ?_
          exact R_sub [0, 1, 2, 3, 4] rfl (jn_47 _ (by
            cases c : plB σ d x.toNat with
            | true => rfl
            | false => rw [c] at j2; simp at j2; omega))
  exact R_sub [3, 4, 2, 1, 0] rfl (lp_16 _ _ _ _ (Nat.lt_succ_self _) (by omega) Same.rf (fun _ _ => rfl) rfl)

theorem s_mplace {Θ : Th} {σ : Mem} (d : Int) (hd0 : rng d) (h : InvC σ) (hR : Rel σ) (hTa : TaR σ) : Spc Θ M_X8_place 1 [.ref (Th.r Θ 1), .int (I d)] σ (fun r σ' => FrM σ σ' ∧ r = if 0 ≤ d ∧ d < σ 2 4 then bsum (plB σ d) 10 else -2) := by
  refine Spc_of (by decide +kernel) (Nat.le_of_ble_eq_true rfl) (fun Γ hB hE => ?_)
  show Run Θ Γ 0 [(0, .ref (Th.r Θ 1)), (1, .int (I d))] [] σ
  refine R_aload_n hB (j := 0) dX8_place_0 rfl rfl ?_
  refine R_iload_n hB (j := 1) dX8_place_1 rfl rfl ?_
  refine R_cV1 hB (s_isDeed _ hd0 h hR) mv_X8_142 rfl rfl (by decide) dX8_place_2 rfl rfl (Nat.le_of_ble_eq_true rfl) (fun z2 σ1 h2 => ?_)
  obtain ⟨f1, f2, f3⟩ := h2
  have hns := h.ns
  refine R_if_eq hB 16 (by rw [f3]; split <;> omega) dX8_place_5 rfl (fun h5 => ?_) (fun h5 => ?_)
  · have hc : ¬ (0 ≤ d ∧ d < σ 2 4) := fun q => by
      rw [if_pos q] at f3
      omega
    refine R_bipush hB dX8_place_16 rfl ?_
    exact R_iret hB hE rfl dX8_place_18 (by
      first
      | exact ⟨f1.tr k1, by rw [if_pos hc]; exact k3⟩
      | exact ⟨f1, by rw [if_neg hc]⟩)
  · have hc : 0 ≤ d ∧ d < σ 2 4 := by
      by_cases q : 0 ≤ d ∧ d < σ 2 4
      · exact q
      · rw [if_neg q] at f3; omega
    refine R_aload_n hB (j := 0) dX8_place_8 rfl rfl ?_
    refine R_iload_n hB (j := 1) dX8_place_9 rfl rfl ?_
    refine R_cV1 hB (s_placeOf d (by rw [f1.1 2 (by decide)]; exact hc) f2.1 f2.2.1 (hTa.mm f1)) mv_X8_257 rfl rfl (by decide) dX8_place_10 rfl rfl (Nat.le_of_ble_eq_true rfl) (fun z10 σ2 h10 => ?_)
    obtain ⟨k1, k2, k3⟩ := h10
    rw [mm_plB f1.1 hns.2] at k3
    refine R_goto hB 18 dX8_place_13 rfl ?_
    exact R_iret hB hE rfl dX8_place_18 (by
      first
      | exact ⟨f1.tr k1, by rw [if_pos hc]; exact k3⟩
      | exact ⟨f1, by rw [if_neg hc]⟩)
