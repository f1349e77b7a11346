theorem s_sbecome {Θ : Th} {σ : Mem} (o : Nat) (ho : clsOf o = 4) (hne : o ≠ 7) (hz : BedOK (σ o)) : Spc Θ M_X4_become 0 [.ref (Th.r Θ 7), .ref (Th.r Θ o)] σ (fun _ σ' => σ' = becM σ o) := by
  refine Spc_of (by decide +kernel) (Nat.le_of_ble_eq_true rfl) (fun Γ hB hE => ?_)
  show Run Θ Γ 0 [(0, .ref (Th.r Θ 7)), (1, .ref (Th.r Θ o))] [] σ
  obtain ⟨z0, z1, z2, z3⟩ := hz
  refine R_aload_n hB (j := 0) dX4_become_0 rfl rfl ?_
  refine R_aload_n hB (j := 1) dX4_become_1 rfl rfl ?_
  refine R_geti hB fl_X4_9 dX4_become_2 ho ?_
  refine N_puti hB fp_X4_9 dX4_become_5 rfl (by omega) (fun σ1 e1 => ?_)
  have k1 : σ1 o = σ o := by rw [e1]; exact up_row hne
  refine R_aload_n hB (j := 0) dX4_become_8 rfl rfl ?_
  refine R_aload_n hB (j := 1) dX4_become_9 rfl rfl ?_
  refine R_geti hB fl_X4_15 dX4_become_10 ho ?_
  refine N_puti hB fp_X4_15 dX4_become_13 rfl (by rw [k1]; omega) (fun σ2 e2 => ?_)
  have k2 : σ2 o = σ o := by rw [e2, up_row hne, k1]
  refine R_aload_n hB (j := 0) dX4_become_16 rfl rfl ?_
  refine R_aload_n hB (j := 1) dX4_become_17 rfl rfl ?_
  refine R_geti hB fl_X4_18 dX4_become_18 ho ?_
  refine N_puti hB fp_X4_18 dX4_become_21 rfl (by rw [k2]; omega) (fun σ3 e3 => ?_)
  have k3 : σ3 o = σ o := by rw [e3, up_row hne, k2]
  refine R_aload_n hB (j := 0) dX4_become_24 rfl rfl ?_
  refine R_aload_n hB (j := 1) dX4_become_25 rfl rfl ?_
  refine R_geti hB fl_X4_21 dX4_become_26 ho ?_
  refine N_puti hB fp_X4_21 dX4_become_29 rfl (by rw [k3]; omega) (fun σ4 e4 => ?_)
  exact R_vret hB hE rfl dX4_become_32 (by
    rw [e4, k3, e3, k2, e2, k1, e1]
    funext i k
    unfold becM up
    by_cases hi : i = 7
    · subst hi
      by_cases c0 : k = 0
      · subst c0; simp
      · by_cases c1 : k = 1
        · subst c1; simp
        · by_cases c2 : k = 2
          · subst c2; simp
          · by_cases c3 : k = 3
            · subst c3; simp
            · simp [c0, c1, c2, c3]
    · simp [hi])

theorem s_dbecome {Θ : Th} {σ : Mem} (w : Int) (hw0 : -1 ≤ w ∧ w < 8) (hw : RowOK (σ 33) (σ 34) (σ 35) (σ 36) (σ 2 4)) : Spc Θ M_X0_become 0 [.ref (Th.r Θ 3), .ref (Th.r Θ 2), .int (I w)] σ (fun _ σ' => Same [3, 37, 38, 39, 40] σ σ' ∧ σ' 3 4 = (if 0 ≤ w ∧ w < σ 2 4 then σ 2 4 - 1 else σ 2 4) ∧ RowOK (σ' 37) (σ' 38) (σ' 39) (σ' 40) (σ' 3 4) ∧ ∀ i, 0 ≤ i → i < σ' 3 4 → σ' 37 i = σ 33 (phi w i) ∧ σ' 38 i = σ 34 (phi w i) ∧ σ' 39 i = σ 35 (phi w i)) := by
  refine Spc_of (by decide +kernel) (Nat.le_of_ble_eq_true rfl) (fun Γ hB hE => ?_)
  show Run Θ Γ 0 [(0, .ref (Th.r Θ 3)), (1, .ref (Th.r Θ 2)), (2, .int (I w))] [] σ
  have hn := hw.1
  refine R_aload_n hB (j := 0) dX0_become_0 rfl rfl ?_
  refine R_iconst hB dX0_become_1 ?_
  refine N_puti hB fp_X0_24 dX0_become_2 rfl (by omega) (fun σ1 e1 => ?_)
  refine R_iconst hB dX0_become_5 ?_
  refine R_istore_n hB (L' := [_, _, _, _]) dX0_become_6 rfl (Nat.le_of_ble_eq_true rfl) rfl ?_
  have lp_7 : ∀ (n_7 : Nat) (d : Int) (σ2 : Mem), ((σ 2 4 - d).toNat) < n_7 → (0 ≤ d ∧ d ≤ σ 2 4) → (Same [3, 37, 38, 39, 40] σ σ2) → (σ2 3 4 = if 0 ≤ w ∧ w < d then d - 1 else d) → (RowOK (σ2 37) (σ2 38) (σ2 39) (σ2 40) (σ2 3 4)) → (∀ i, 0 ≤ i → i < σ2 3 4 → σ2 37 i = σ 33 (phi w i) ∧ σ2 38 i = σ 34 (phi w i) ∧ σ2 39 i = σ 35 (phi w i)) → Run Θ Γ 7 [(0, .ref (Th.r Θ 3)), (1, .ref (Th.r Θ 2)), (2, .int (I w)), (3, .int (I d))] [] σ2 := by
    intro n_7
    induction n_7 with
    | zero => intro d σ2 h_m; exact absurd h_m (Nat.not_lt_zero _)
    | succ n_7 ih_7 =>
      intro d σ2 h_m hd hS hm hrow hen
      have k2 : σ2 2 = σ 2 := hS 2 (by decide)
      have k33 : σ2 33 = σ 33 := hS 33 (by decide)
      have k34 : σ2 34 = σ 34 := hS 34 (by decide)
      have k35 : σ2 35 = σ 35 := hS 35 (by decide)
      refine R_iload_n hB (j := 3) dX0_become_7 rfl rfl ?_
      refine R_aload_n hB (j := 1) dX0_become_8 rfl rfl ?_
      refine R_geti hB fl_X0_24 dX0_become_9 rfl ?_
      refine R_icmp_ge hB 48 (by omega) (by rw [k2]; omega) dX0_become_12 rfl (fun h12 => ?_) (fun h12 => ?_)
      · rw [k2] at h12
        exact R_vret hB hE rfl dX0_become_48 (by
          have hdn : d = σ 2 4 := by omega
          rw [hdn] at hm
          exact ⟨hS, hm, hrow, hen⟩)
      · rw [k2] at h12
        have hdd := hw.2.1 d hd.1 h12
        refine R_iload_n hB (j := 3) dX0_become_15 rfl rfl ?_
        refine R_iload_n hB (j := 2) dX0_become_16 rfl rfl ?_
        refine R_icmp_eq hB 42 (by omega) (by omega) dX0_become_17 rfl (fun h17 => ?_) (fun h17 => ?_)
        · refine R_iinc hB (j := 3) (L' := [_, _, _, _]) dX0_become_42 rfl (Nat.le_of_ble_eq_true rfl) rfl ?_
          refine R_goto hB 7 dX0_become_45 rfl ?_
          exact R_sub [1, 2, 3, 0] rfl (ih_7 _ _ (by omega) (by omega) (by first | exact hS | exact hS.tr j1 (fun _ q => q) (fun _ q => q)) (by first | (rw [hm]; (repeat split) <;> omega) | (rw [j2, hm]; (repeat split) <;> omega)) (by first | exact hrow | exact j6) (by
            first
            | exact hen
            | (intro i q1 q2
               rw [j2] at q2
               rw [j3, j4, j5]
               by_cases c : i = σ2 3 4
               · have hp : phi w i = d := by rw [c, hm]; unfold phi; (repeat split) <;> omega
                 rw [if_pos c, if_pos c, if_pos c, hp]
                 exact ⟨rfl, rfl, rfl⟩
               · rw [if_neg c, if_neg c, if_neg c]
                 exact hen i q1 (by omega))))
        · refine R_aload_n hB (j := 0) dX0_become_20 rfl rfl ?_
          refine R_aload_n hB (j := 1) dX0_become_21 rfl rfl ?_
          refine R_getr hB (33) fl_X0_9 dX0_become_22 rfl rfl ?_
          refine R_iload_n hB (j := 3) dX0_become_25 rfl rfl ?_
          refine R_iald hB rfl (by omega) dX0_become_26 ?_
          refine R_aload_n hB (j := 1) dX0_become_27 rfl rfl ?_
          refine R_getr hB (34) fl_X0_15 dX0_become_28 rfl rfl ?_
          refine R_iload_n hB (j := 3) dX0_become_31 rfl rfl ?_
          refine R_iald hB rfl (by omega) dX0_become_32 ?_
          refine R_aload_n hB (j := 1) dX0_become_33 rfl rfl ?_
          refine R_getr hB (35) fl_X0_18 dX0_become_34 rfl rfl ?_
          refine R_iload_n hB (j := 3) dX0_become_37 rfl rfl ?_
          refine R_iald hB rfl (by omega) dX0_become_38 ?_
          refine R_cV0 hB (s_dadd_3 _ _ _ (by rw [k33]; omega) (by rw [k34]; omega) (by rw [k35]; omega) hrow (by rw [hm]; split <;> omega)) mv_X0_28 rfl rfl (by decide) dX0_become_39 rfl rfl (Nat.le_of_ble_eq_true rfl) (fun σ3 h39 => ?_)
          obtain ⟨j1, j2, j3, j4, j5, j6⟩ := h39
          simp only [k33] at j3
          simp only [k34] at j4
          simp only [k35] at j5
          refine R_iinc hB (j := 3) (L' := [_, _, _, _]) dX0_become_42 rfl (Nat.le_of_ble_eq_true rfl) rfl ?_
          refine R_goto hB 7 dX0_become_45 rfl ?_
          exact R_sub [1, 2, 3, 0] rfl (ih_7 _ _ (by omega) (by omega) (by first | exact hS | exact hS.tr j1 (fun _ q => q) (fun _ q => q)) (by first | (rw [hm]; (repeat split) <;> omega) | (rw [j2, hm]; (repeat split) <;> omega)) (by first | exact hrow | exact j6) (by
            first
            | exact hen
            | (intro i q1 q2
               rw [j2] at q2
               rw [j3, j4, j5]
               by_cases c : i = σ2 3 4
               · have hp : phi w i = d := by rw [c, hm]; unfold phi; (repeat split) <;> omega
                 rw [if_pos c, if_pos c, if_pos c, hp]
                 exact ⟨rfl, rfl, rfl⟩
               · rw [if_neg c, if_neg c, if_neg c]
                 exact hen i q1 (by omega))))
  exact R_sub [1, 2, 3, 0] rfl (lp_7 _ _ _ (Nat.lt_succ_self _) (by omega) (by rw [e1]; exact Same.up (by decide)) (by rw [e1, up_s, if_neg (by omega)]) (by rw [e1, up_s]; exact row_0 _ _ _ _) (fun i q1 q2 => by rw [e1, up_s] at q2; omega))
