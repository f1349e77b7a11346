theorem s_spreadWays {Θ : Th} {σ : Mem} (mn c : Int) (hm : 0 ≤ mn ∧ mn ≤ 8) (hc : 0 ≤ c ∧ c ≤ 16) : Spc Θ M_X7_spreadWays 0 [.ref (Th.r Θ 0), .int (I mn), .int (I c)] σ (fun _ σ' => Same [28] σ σ' ∧ ∀ k, 0 ≤ k → k < 9 → σ' 28 k = wy c mn.toNat k) := by
  refine Spc_of (by decide +kernel) (Nat.le_of_ble_eq_true rfl) (fun Γ hB hE => ?_)
  show Run Θ Γ 0 [(0, .ref (Th.r Θ 0)), (1, .int (I mn)), (2, .int (I c))] [] σ
  refine R_aload_n hB (j := 0) dX7_spreadWays_0 rfl rfl ?_
  refine R_getr hB (28) fl_X7_74 dX7_spreadWays_1 rfl rfl ?_
  refine R_lconst hB (z := 0) dX7_spreadWays_4 rfl ?_
  refine R_cS0 hB (s_fillL 0 (by omega)) ms_X7_283 (by decide) dX7_spreadWays_5 rfl rfl (Nat.le_of_ble_eq_true rfl) (fun σ0 h5 => ?_)
  refine R_aload_n hB (j := 0) dX7_spreadWays_8 rfl rfl ?_
  refine R_getr hB (28) fl_X7_74 dX7_spreadWays_9 rfl rfl ?_
  refine R_iconst hB dX7_spreadWays_12 ?_
  refine R_lconst hB (z := 1) dX7_spreadWays_13 rfl ?_
  refine N_last hB rfl (by decide) (by omega) (by omega) dX7_spreadWays_14 (fun σ1 e1 => ?_)
  refine R_iconst hB dX7_spreadWays_15 ?_
  refine R_istore_n hB (L' := [_, _, _, _]) dX7_spreadWays_16 rfl (Nat.le_of_ble_eq_true rfl) rfl ?_
  have lp_17 : ∀ (n_17 : Nat) (n : Int) (σ2 : Mem), ((mn + 1 - n).toNat) < n_17 → (1 ≤ n ∧ n ≤ mn + 1) → (Same [28] σ σ2) → (∀ k, 0 ≤ k → k < 9 → σ2 28 k = wy c (n - 1).toNat k) → Run Θ Γ 17 [(0, .ref (Th.r Θ 0)), (1, .int (I mn)), (2, .int (I c)), (3, .int (I n))] [] σ2 := by
    intro n_17
    induction n_17 with
    | zero => intro n σ2 h_m; exact absurd h_m (Nat.not_lt_zero _)
    | succ n_17 ih_17 =>
      intro n σ2 h_m hn hS hw
      refine R_iload_n hB (j := 3) dX7_spreadWays_17 rfl rfl ?_
      refine R_iload_n hB (j := 1) dX7_spreadWays_18 rfl rfl ?_
      refine R_icmp_gt hB 92 (by omega) (by omega) dX7_spreadWays_19 rfl (fun h19 => ?_) (fun h19 => ?_)
      · have hnm : n = mn + 1 := by omega
        exact R_vret hB hE rfl dX7_spreadWays_92 (⟨hS, fun k q1 q2 => by
          first
          | (rw [hw k q1 q2]; congr 1; omega)⟩)
      · refine R_iload_n hB (j := 3) dX7_spreadWays_22 rfl rfl ?_
        refine R_bipush hB dX7_spreadWays_23 rfl ?_
        refine R_icmp_gt hB 92 (by omega) (by omega) dX7_spreadWays_25 rfl (fun h25 => ?_) (fun h25 => ?_)
        · exfalso; omega
        · refine R_iload_n hB (j := 3) dX7_spreadWays_28 rfl rfl ?_
          refine R_istore hB (L' := [_, _, _, _, _]) dX7_spreadWays_29 (Nat.le_of_ble_eq_true rfl) rfl ?_
          have lp_31 : ∀ (n_31 : Nat) (k : Int) (σ3 : Mem), (k.toNat) < n_31 → (0 ≤ k ∧ k ≤ n) → (Same [28] σ σ3) → (∀ j, 0 ≤ j → j ≤ k → σ3 28 j = wy c (n - 1).toNat j) → (∀ j, k < j → j < 9 → σ3 28 j = wy c ((n - 1).toNat + 1) j) → Run Θ Γ 31 [(0, .ref (Th.r Θ 0)), (1, .int (I mn)), (2, .int (I c)), (3, .int (I n)), (4, .int (I k))] [] σ3 := by
            intro n_31
            induction n_31 with
            | zero => intro k σ3 h_m; exact absurd h_m (Nat.not_lt_zero _)
            | succ n_31 ih_31 =>
              intro k σ3 h_m hk hS3 hlo hhi
              refine R_iload hB (j := 4) dX7_spreadWays_31 rfl ?_
              refine R_if_le hB 75 (by omega) dX7_spreadWays_33 rfl (fun h33 => ?_) (fun h33 => ?_)
              · have hk0 : k = 0 := by omega
                subst hk0
                have w0 := wy_in hc (n - 1).toNat 0
                have hw0 := hlo 0 (by omega) (by omega)
                have p8 := p16_le (n - 1).toNat (by omega)
                have wc : wy c (n - 1).toNat 0 * c ≤ 4294967296 * 16 := by
                  have a := Int.mul_le_mul w0.2 hc.2 hc.1 (Int.le_of_lt (p16_pos _))
                  omega
                have wc0 : 0 ≤ wy c (n - 1).toNat 0 * c := Int.mul_nonneg w0.1 hc.1
                refine R_aload_n hB (j := 0) dX7_spreadWays_75 rfl rfl ?_
                refine R_getr hB (28) fl_X7_74 dX7_spreadWays_76 rfl rfl ?_
                refine R_iconst hB dX7_spreadWays_79 ?_
                refine R_dup2 hB dX7_spreadWays_80 rfl rfl ?_
                refine R_lald hB rfl (by omega) dX7_spreadWays_81 ?_
                refine R_iload_n hB (j := 2) dX7_spreadWays_82 rfl rfl ?_
                refine R_i2l hB (by omega) dX7_spreadWays_83 ?_
                refine R_lmul hB dX7_spreadWays_84 ?_
                refine N_last hB rfl (by decide) (by omega) (by rw [hw0]; omega) dX7_spreadWays_85 (fun σ5 e5 => ?_)
                refine R_iinc hB (j := 3) (L' := [_, _, _, _, _]) dX7_spreadWays_86 rfl (Nat.le_of_ble_eq_true rfl) rfl ?_
                refine R_goto hB 17 dX7_spreadWays_89 rfl ?_
                exact R_sub [1, 2, 3, 0] rfl (ih_17 _ _ (by omega) (by omega) (hS3.tr (S' := [28]) (by rw [e5]; exact Same.up (by decide)) (fun _ q => q) (fun _ q => q)) (fun k q1 q2 => by
                  rw [show (n + 1 - 1).toNat = (n - 1).toNat + 1 by omega, e5]
                  by_cases c9 : k = 0
                  · rw [c9, up_s, hw0]
                    simp only [wy]
                    rw [wy_neg c _ (show (0 : Int) - 1 < 0 by decide)]
                    simp
                  · rw [up_n (fun q => c9 q.2)]
                    exact hhi k (by omega) q2))
              · have w1 := hlo k (by omega) (by omega)
                have w2 := hlo (k - 1) (by omega) (by omega)
                have ww := wy_in hc ((n - 1).toNat + 1) k
                have p8 := p16_le ((n - 1).toNat + 1) (by omega)
                simp only [wy] at ww
                refine R_aload_n hB (j := 0) dX7_spreadWays_36 rfl rfl ?_
                refine R_getr hB (28) fl_X7_74 dX7_spreadWays_37 rfl rfl ?_
                refine R_iload hB (j := 4) dX7_spreadWays_40 rfl ?_
                refine R_aload_n hB (j := 0) dX7_spreadWays_42 rfl rfl ?_
                refine R_getr hB (28) fl_X7_74 dX7_spreadWays_43 rfl rfl ?_
                refine R_iload hB (j := 4) dX7_spreadWays_46 rfl ?_
                refine R_lald hB rfl (by omega) dX7_spreadWays_48 ?_
                refine R_iload_n hB (j := 2) dX7_spreadWays_49 rfl rfl ?_
                refine R_i2l hB (by omega) dX7_spreadWays_50 ?_
                refine R_lmul hB dX7_spreadWays_51 ?_
                refine R_aload_n hB (j := 0) dX7_spreadWays_52 rfl rfl ?_
                refine R_getr hB (28) fl_X7_74 dX7_spreadWays_53 rfl rfl ?_
                refine R_iload hB (j := 4) dX7_spreadWays_56 rfl ?_
                refine R_iconst hB dX7_spreadWays_58 ?_
                refine R_isub hB dX7_spreadWays_59 ?_
                refine R_lald hB rfl (by omega) dX7_spreadWays_60 ?_
                refine R_bipush hB dX7_spreadWays_61 rfl ?_
                refine R_iload_n hB (j := 2) dX7_spreadWays_63 rfl rfl ?_
                refine R_isub hB dX7_spreadWays_64 ?_
                refine R_i2l hB (by omega) dX7_spreadWays_65 ?_
                refine R_lmul hB dX7_spreadWays_66 ?_
                refine R_ladd hB dX7_spreadWays_67 ?_
                refine N_last hB rfl (by decide) (by omega) (by rw [w1, w2]; omega) dX7_spreadWays_68 (fun σ4 e4 => ?_)
                refine R_iinc hB (j := 4) (L' := [_, _, _, _, _]) dX7_spreadWays_69 rfl (Nat.le_of_ble_eq_true rfl) rfl ?_
                refine R_goto hB 31 dX7_spreadWays_72 rfl ?_
                exact R_sub [1, 2, 3, 4, 0] rfl (ih_31 _ _ (by omega) (by omega) (hS3.tr (S' := [28]) (by rw [e4]; exact Same.up (by decide)) (fun _ q => q) (fun _ q => q)) (fun j q1 q2 => by rw [e4, up_n (by omega)]; exact hlo j q1 (by omega)) (fun j q1 q2 => by
                  rw [e4]
                  by_cases c9 : j = k
                  · rw [c9, up_s, w1, w2]
                    simp only [wy]
                  · rw [up_n (fun q => c9 q.2)]
                    exact hhi j (by omega) q2))
          exact R_sub [1, 2, 3, 4, 0] rfl (lp_31 _ _ _ (Nat.lt_succ_self _) (by omega) hS (fun j q1 q2 => hw j q1 (by omega)) (fun j q1 q2 => by
            rw [hw j (by omega) q2, wy_big _ _ (by omega), wy_big _ _ (by omega)]))
  exact R_sub [1, 2, 3, 0] rfl (lp_17 _ _ _ (Nat.lt_succ_self _) (by omega) ((by rw [h5]; exact Same.fill (by decide) : Same [28] σ σ0).tr (S' := [28]) (by rw [e1]; exact Same.up (by decide)) (fun _ q => q) (fun _ q => q)) (fun k q1 q2 => by
    rw [e1, h5]
    unfold up fillM
    by_cases c9 : k = 0
    · simp [c9, wy]
    · simp [c9, wy, q1, q2]))
