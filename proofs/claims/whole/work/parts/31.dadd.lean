theorem s_dadd_2 {Θ : Th} {σ : Mem} (hour house sound : Int) (c1 : 0 ≤ hour ∧ hour < 50) (c2 : 0 ≤ house ∧ house ≤ 9) (c3 : 0 ≤ sound ∧ sound < 4) (hw : RowOK (σ 33) (σ 34) (σ 35) (σ 36) (σ 2 4)) (hn : σ 2 4 < 8) : Spc Θ M_X0_add 0 [.ref (Th.r Θ 2), .int (I hour), .int (I house), .int (I sound)] σ (fun _ σ' => Same [2, 33, 34, 35, 36] σ σ' ∧ σ' 2 4 = σ 2 4 + 1 ∧ (∀ k, σ' 33 k = if k = σ 2 4 then hour else σ 33 k) ∧ (∀ k, σ' 34 k = if k = σ 2 4 then house else σ 34 k) ∧ (∀ k, σ' 35 k = if k = σ 2 4 then sound else σ 35 k) ∧ RowOK (σ' 33) (σ' 34) (σ' 35) (σ' 36) (σ' 2 4)) := by
  refine Spc_of (by decide +kernel) (Nat.le_of_ble_eq_true rfl) (fun Γ hB hE => ?_)
  show Run Θ Γ 0 [(0, .ref (Th.r Θ 2)), (1, .int (I hour)), (2, .int (I house)), (3, .int (I sound))] [] σ
  have hn0 := hw.1
  refine R_aload_n hB (j := 0) dX0_add_0 rfl rfl ?_
  refine R_geti hB fl_X0_24 dX0_add_1 rfl ?_
  refine R_bipush hB dX0_add_4 rfl ?_
  refine R_icmp_lt hB 10 (by omega) (by omega) dX0_add_6 rfl (fun h6 => ?_) (fun h6 => ?_)
  · refine R_aload_n hB (j := 0) dX0_add_10 rfl rfl ?_
    refine R_getr hB (33) fl_X0_9 dX0_add_11 rfl rfl ?_
    refine R_aload_n hB (j := 0) dX0_add_14 rfl rfl ?_
    refine R_geti hB fl_X0_24 dX0_add_15 rfl ?_
    refine R_iload_n hB (j := 1) dX0_add_18 rfl rfl ?_
    refine N_iast hB rfl (by omega) (by omega) dX0_add_19 (fun σ1 e1 => ?_)
    have p1 : σ1 2 = σ 2 := by rw [e1]; exact up_row (by decide)
    refine R_aload_n hB (j := 0) dX0_add_20 rfl rfl ?_
    refine R_getr hB (34) fl_X0_15 dX0_add_21 rfl rfl ?_
    refine R_aload_n hB (j := 0) dX0_add_24 rfl rfl ?_
    refine R_geti hB fl_X0_24 dX0_add_25 rfl ?_
    refine R_iload_n hB (j := 2) dX0_add_28 rfl rfl ?_
    refine N_iast hB rfl (by rw [p1]; omega) (by omega) dX0_add_29 (fun σ2 e2 => ?_)
    have p2 : σ2 2 = σ 2 := by rw [e2, up_row (by decide), p1]
    refine R_aload_n hB (j := 0) dX0_add_30 rfl rfl ?_
    refine R_getr hB (35) fl_X0_18 dX0_add_31 rfl rfl ?_
    refine R_aload_n hB (j := 0) dX0_add_34 rfl rfl ?_
    refine R_geti hB fl_X0_24 dX0_add_35 rfl ?_
    refine R_iload_n hB (j := 3) dX0_add_38 rfl rfl ?_
    refine N_iast hB rfl (by rw [p2]; omega) (by omega) dX0_add_39 (fun σ3 e3 => ?_)
    have p3 : σ3 2 = σ 2 := by rw [e3, up_row (by decide), p2]
    have p4 : σ3 36 = σ 36 := by rw [e3, up_row (by decide), e2, up_row (by decide), e1, up_row (by decide)]
    have p5 : ∀ k, σ3 33 k = if k = σ 2 4 then hour else σ 33 k := fun k => by rw [e3, up_row (by decide), e2, up_row (by decide), e1]; unfold up; simp
    refine R_aload_n hB (j := 0) dX0_add_40 rfl rfl ?_
    refine R_geti hB fl_X0_24 dX0_add_41 rfl ?_
    refine R_istore hB (L' := [_, _, _, _, _]) dX0_add_44 (Nat.le_of_ble_eq_true rfl) rfl ?_
    have lp_46 : ∀ (n_46 : Nat) (a : Int) (σ4 : Mem), (a.toNat) < n_46 → (0 ≤ a ∧ a ≤ σ 2 4) → (∀ i, i ≠ 36 → σ4 i = σ3 i) → (∀ k, k < a → σ4 36 k = σ 36 k) → (∀ k, a < k → k ≤ σ 2 4 → σ4 36 k = σ 36 (k - 1)) → (∀ k, a ≤ k → k < σ 2 4 → hour < σ 33 (σ 36 k)) → Run Θ Γ 46 [(0, .ref (Th.r Θ 2)), (1, .int (I hour)), (2, .int (I house)), (3, .int (I sound)), (4, .int (I a))] [] σ4 := by
      intro n_46
      induction n_46 with
      | zero => intro a σ4 h_m; exact absurd h_m (Nat.not_lt_zero _)
      | succ n_46 ih_46 =>
        intro a σ4 h_m ha hS hlo hhi hgt
        have jn_91 : ∀ (_ : Unit), (a = 0 ∨ σ 33 (σ 36 (a - 1)) ≤ hour) → Run Θ Γ 91 [(0, .ref (Th.r Θ 2)), (1, .int (I hour)), (2, .int (I house)), (3, .int (I sound)), (4, .int (I a))] [] σ4 := by
          intro _ hst
          refine R_aload_n hB (j := 0) dX0_add_91 rfl rfl ?_
          refine R_getr hB (36) fl_X0_21 dX0_add_92 rfl rfl ?_
          refine R_iload hB (j := 4) dX0_add_95 rfl ?_
          refine R_aload_n hB (j := 0) dX0_add_97 rfl rfl ?_
          have p6 : σ4 2 = σ 2 := by rw [hS 2 (by decide), p3]
          refine R_geti hB fl_X0_24 dX0_add_98 rfl ?_
          refine N_iast hB rfl (by omega) (by rw [p6]; omega) dX0_add_101 (fun σ6 e6 => ?_)
          have p7 : σ6 2 = σ 2 := by rw [e6, up_row (by decide), p6]
          refine R_aload_n hB (j := 0) dX0_add_102 rfl rfl ?_
          refine R_dup hB dX0_add_103 rfl ?_
          refine R_geti hB fl_X0_24 dX0_add_104 rfl ?_
          refine R_iconst hB dX0_add_107 ?_
          refine R_iadd hB dX0_add_108 ?_
          refine N_puti hB fp_X0_24 dX0_add_109 rfl (by rw [p7]; omega) (fun σ7 e7 => ?_)
          exact R_vret hB hE rfl dX0_add_112 (by
            rw [p6] at e6
            rw [p7] at e7
            have g1 : ∀ k, σ7 33 k = if k = σ 2 4 then hour else σ 33 k := fun k => by rw [e7, up_row (by decide), e6, up_row (by decide), hS 33 (by decide), p5]
            have g2 : ∀ k, σ7 34 k = if k = σ 2 4 then house else σ 34 k := fun k => by
              rw [e7, up_row (by decide), e6, up_row (by decide), hS 34 (by decide), e3, up_row (by decide), e2, p1]
              unfold up
              simp [e1, up_row (show (34 : Nat) ≠ 33 by decide)]
            have g3 : ∀ k, σ7 35 k = if k = σ 2 4 then sound else σ 35 k := fun k => by
              rw [e7, up_row (by decide), e6, up_row (by decide), hS 35 (by decide), e3, p2]
              unfold up
              simp [e2, up_row (show (35 : Nat) ≠ 34 by decide), e1, up_row (show (35 : Nat) ≠ 33 by decide)]
            have g4 : σ7 2 4 = σ 2 4 + 1 := by rw [e7, up_s]
            refine ⟨fun i hi => ?_, g4, g1, g2, g3, ?_⟩
            · simp only [List.mem_cons, List.not_mem_nil, or_false, not_or] at hi
              rw [e7, up_row hi.1, e6, up_row hi.2.2.2.2, hS i hi.2.2.2.2, e3, up_row hi.2.2.2.1, e2, up_row hi.2.2.1, e1, up_row hi.2.1]
            · rw [g4]
              refine row_ins hw hn c1 c2 c3 ha hst hgt g1 g2 g3 (fun k q1 q2 => ?_)
              rw [e7, up_row (by decide), e6]
              unfold up
              by_cases c1 : k < a
              · rw [if_neg (by omega), if_pos c1, hlo k c1]
              · rw [if_neg c1]
                by_cases c2 : k = a
                · rw [if_pos ⟨rfl, c2⟩, if_pos c2]
                · rw [if_neg (fun q => c2 q.2), if_neg c2, hhi k (by omega) q2])
        refine R_iload hB (j := 4) dX0_add_46 rfl ?_
        refine R_if_le hB 91 (by omega) dX0_add_48 rfl (fun h48 => ?_) (fun h48 => ?_)
        · exact R_sub [0, 1, 2, 3, 4] rfl (jn_91 () (Or.inl (by omega)))
        · refine R_aload_n hB (j := 0) dX0_add_51 rfl rfl ?_
          refine R_getr hB (33) fl_X0_9 dX0_add_52 rfl rfl ?_
          refine R_aload_n hB (j := 0) dX0_add_55 rfl rfl ?_
          refine R_getr hB (36) fl_X0_21 dX0_add_56 rfl rfl ?_
          refine R_iload hB (j := 4) dX0_add_59 rfl ?_
          refine R_iconst hB dX0_add_61 ?_
          refine R_isub hB dX0_add_62 ?_
          refine R_iald hB rfl (by omega) dX0_add_63 ?_
          have r0 : σ4 36 (a - 1) = σ 36 (a - 1) := hlo (a - 1) (by omega)
          have r1 := (row_ord hw (k := a - 1) (by omega)).1
          have r2 := hw.2.1 (σ 36 (a - 1)) r1.1 r1.2
          have r3 : σ4 33 (σ 36 (a - 1)) = σ 33 (σ 36 (a - 1)) := by rw [hS 33 (by decide), p5, if_neg (by omega)]
          refine R_iald hB rfl (by rw [r0]; omega) dX0_add_64 ?_
          refine R_iload_n hB (j := 1) dX0_add_65 rfl rfl ?_
          refine R_icmp_le hB 91 (by rw [r0, r3]; omega) (by omega) dX0_add_66 rfl (fun h66 => ?_) (fun h66 => ?_)
          · rw [r0, r3] at h66
            exact R_sub [0, 1, 2, 3, 4] rfl (jn_91 () (Or.inr h66))
          · rw [r0, r3] at h66
            refine R_aload_n hB (j := 0) dX0_add_69 rfl rfl ?_
            refine R_getr hB (36) fl_X0_21 dX0_add_70 rfl rfl ?_
            refine R_iload hB (j := 4) dX0_add_73 rfl ?_
            refine R_aload_n hB (j := 0) dX0_add_75 rfl rfl ?_
            refine R_getr hB (36) fl_X0_21 dX0_add_76 rfl rfl ?_
            refine R_iload hB (j := 4) dX0_add_79 rfl ?_
            refine R_iconst hB dX0_add_81 ?_
            refine R_isub hB dX0_add_82 ?_
            refine R_iald hB rfl (by omega) dX0_add_83 ?_
            refine N_iast hB rfl (by omega) (by rw [r0]; omega) dX0_add_84 (fun σ5 e5 => ?_)
            refine R_iinc hB (j := 4) (L' := [_, _, _, _, _]) dX0_add_85 rfl (Nat.le_of_ble_eq_true rfl) rfl ?_
            refine R_goto hB 46 dX0_add_88 rfl ?_
            exact R_sub [1, 2, 3, 4, 0] rfl (ih_46 _ _ (by omega) (by omega) (fun i hi => by rw [e5, up_row hi, hS i hi]) (fun k hk => by rw [e5, up_n (by omega)]; exact hlo k (by omega)) (fun k q1 q2 => by
              rw [e5]
              unfold up
              by_cases c : k = a
              · rw [if_pos ⟨rfl, c⟩, r0, c]
              · rw [if_neg (fun q => c q.2)]; exact hhi k (by omega) q2) (fun k q1 q2 => by
              by_cases c : k = a - 1
              · rw [c]; exact h66
              · exact hgt k (by omega) q2))
    exact R_sub [1, 2, 3, 4, 0] rfl (lp_46 _ (σ3 2 4) σ3 (Nat.lt_succ_self _) (by rw [p3]; omega) (fun i _ => rfl) (fun k _ => by rw [p4]) (fun k q1 q2 => by rw [p3] at q1; omega) (fun k q1 q2 => by rw [p3] at q1; omega))
  · exfalso; omega

theorem s_dadd_3 {Θ : Th} {σ : Mem} (hour house sound : Int) (c1 : 0 ≤ hour ∧ hour < 50) (c2 : 0 ≤ house ∧ house ≤ 9) (c3 : 0 ≤ sound ∧ sound < 4) (hw : RowOK (σ 37) (σ 38) (σ 39) (σ 40) (σ 3 4)) (hn : σ 3 4 < 8) : Spc Θ M_X0_add 0 [.ref (Th.r Θ 3), .int (I hour), .int (I house), .int (I sound)] σ (fun _ σ' => Same [3, 37, 38, 39, 40] σ σ' ∧ σ' 3 4 = σ 3 4 + 1 ∧ (∀ k, σ' 37 k = if k = σ 3 4 then hour else σ 37 k) ∧ (∀ k, σ' 38 k = if k = σ 3 4 then house else σ 38 k) ∧ (∀ k, σ' 39 k = if k = σ 3 4 then sound else σ 39 k) ∧ RowOK (σ' 37) (σ' 38) (σ' 39) (σ' 40) (σ' 3 4)) := by
  refine Spc_of (by decide +kernel) (Nat.le_of_ble_eq_true rfl) (fun Γ hB hE => ?_)
  show Run Θ Γ 0 [(0, .ref (Th.r Θ 3)), (1, .int (I hour)), (2, .int (I house)), (3, .int (I sound))] [] σ
  have hn0 := hw.1
  refine R_aload_n hB (j := 0) dX0_add_0 rfl rfl ?_
  refine R_geti hB fl_X0_24 dX0_add_1 rfl ?_
  refine R_bipush hB dX0_add_4 rfl ?_
  refine R_icmp_lt hB 10 (by omega) (by omega) dX0_add_6 rfl (fun h6 => ?_) (fun h6 => ?_)
  · refine R_aload_n hB (j := 0) dX0_add_10 rfl rfl ?_
    refine R_getr hB (37) fl_X0_9 dX0_add_11 rfl rfl ?_
    refine R_aload_n hB (j := 0) dX0_add_14 rfl rfl ?_
    refine R_geti hB fl_X0_24 dX0_add_15 rfl ?_
    refine R_iload_n hB (j := 1) dX0_add_18 rfl rfl ?_
    refine N_iast hB rfl (by omega) (by omega) dX0_add_19 (fun σ1 e1 => ?_)
    have p1 : σ1 3 = σ 3 := by rw [e1]; exact up_row (by decide)
    refine R_aload_n hB (j := 0) dX0_add_20 rfl rfl ?_
    refine R_getr hB (38) fl_X0_15 dX0_add_21 rfl rfl ?_
    refine R_aload_n hB (j := 0) dX0_add_24 rfl rfl ?_
    refine R_geti hB fl_X0_24 dX0_add_25 rfl ?_
    refine R_iload_n hB (j := 2) dX0_add_28 rfl rfl ?_
    refine N_iast hB rfl (by rw [p1]; omega) (by omega) dX0_add_29 (fun σ2 e2 => ?_)
    have p2 : σ2 3 = σ 3 := by rw [e2, up_row (by decide), p1]
    refine R_aload_n hB (j := 0) dX0_add_30 rfl rfl ?_
    refine R_getr hB (39) fl_X0_18 dX0_add_31 rfl rfl ?_
    refine R_aload_n hB (j := 0) dX0_add_34 rfl rfl ?_
    refine R_geti hB fl_X0_24 dX0_add_35 rfl ?_
    refine R_iload_n hB (j := 3) dX0_add_38 rfl rfl ?_
    refine N_iast hB rfl (by rw [p2]; omega) (by omega) dX0_add_39 (fun σ3 e3 => ?_)
    have p3 : σ3 3 = σ 3 := by rw [e3, up_row (by decide), p2]
    have p4 : σ3 40 = σ 40 := by rw [e3, up_row (by decide), e2, up_row (by decide), e1, up_row (by decide)]
    have p5 : ∀ k, σ3 37 k = if k = σ 3 4 then hour else σ 37 k := fun k => by rw [e3, up_row (by decide), e2, up_row (by decide), e1]; unfold up; simp
    refine R_aload_n hB (j := 0) dX0_add_40 rfl rfl ?_
    refine R_geti hB fl_X0_24 dX0_add_41 rfl ?_
    refine R_istore hB (L' := [_, _, _, _, _]) dX0_add_44 (Nat.le_of_ble_eq_true rfl) rfl ?_
    have lp_46 : ∀ (n_46 : Nat) (a : Int) (σ4 : Mem), (a.toNat) < n_46 → (0 ≤ a ∧ a ≤ σ 3 4) → (∀ i, i ≠ 40 → σ4 i = σ3 i) → (∀ k, k < a → σ4 40 k = σ 40 k) → (∀ k, a < k → k ≤ σ 3 4 → σ4 40 k = σ 40 (k - 1)) → (∀ k, a ≤ k → k < σ 3 4 → hour < σ 37 (σ 40 k)) → Run Θ Γ 46 [(0, .ref (Th.r Θ 3)), (1, .int (I hour)), (2, .int (I house)), (3, .int (I sound)), (4, .int (I a))] [] σ4 := by
      intro n_46
      induction n_46 with
      | zero => intro a σ4 h_m; exact absurd h_m (Nat.not_lt_zero _)
      | succ n_46 ih_46 =>
        intro a σ4 h_m ha hS hlo hhi hgt
        have jn_91 : ∀ (_ : Unit), (a = 0 ∨ σ 37 (σ 40 (a - 1)) ≤ hour) → Run Θ Γ 91 [(0, .ref (Th.r Θ 3)), (1, .int (I hour)), (2, .int (I house)), (3, .int (I sound)), (4, .int (I a))] [] σ4 := by
          intro _ hst
          refine R_aload_n hB (j := 0) dX0_add_91 rfl rfl ?_
          refine R_getr hB (40) fl_X0_21 dX0_add_92 rfl rfl ?_
          refine R_iload hB (j := 4) dX0_add_95 rfl ?_
          refine R_aload_n hB (j := 0) dX0_add_97 rfl rfl ?_
          have p6 : σ4 3 = σ 3 := by rw [hS 3 (by decide), p3]
          refine R_geti hB fl_X0_24 dX0_add_98 rfl ?_
          refine N_iast hB rfl (by omega) (by rw [p6]; omega) dX0_add_101 (fun σ6 e6 => ?_)
          have p7 : σ6 3 = σ 3 := by rw [e6, up_row (by decide), p6]
          refine R_aload_n hB (j := 0) dX0_add_102 rfl rfl ?_
          refine R_dup hB dX0_add_103 rfl ?_
          refine R_geti hB fl_X0_24 dX0_add_104 rfl ?_
          refine R_iconst hB dX0_add_107 ?_
          refine R_iadd hB dX0_add_108 ?_
          refine N_puti hB fp_X0_24 dX0_add_109 rfl (by rw [p7]; omega) (fun σ7 e7 => ?_)
          exact R_vret hB hE rfl dX0_add_112 (by
            rw [p6] at e6
            rw [p7] at e7
            have g1 : ∀ k, σ7 37 k = if k = σ 3 4 then hour else σ 37 k := fun k => by rw [e7, up_row (by decide), e6, up_row (by decide), hS 37 (by decide), p5]
            have g2 : ∀ k, σ7 38 k = if k = σ 3 4 then house else σ 38 k := fun k => by
              rw [e7, up_row (by decide), e6, up_row (by decide), hS 38 (by decide), e3, up_row (by decide), e2, p1]
              unfold up
              simp [e1, up_row (show (38 : Nat) ≠ 37 by decide)]
            have g3 : ∀ k, σ7 39 k = if k = σ 3 4 then sound else σ 39 k := fun k => by
              rw [e7, up_row (by decide), e6, up_row (by decide), hS 39 (by decide), e3, p2]
              unfold up
              simp [e2, up_row (show (39 : Nat) ≠ 38 by decide), e1, up_row (show (39 : Nat) ≠ 37 by decide)]
            have g4 : σ7 3 4 = σ 3 4 + 1 := by rw [e7, up_s]
            refine ⟨fun i hi => ?_, g4, g1, g2, g3, ?_⟩
            · simp only [List.mem_cons, List.not_mem_nil, or_false, not_or] at hi
              rw [e7, up_row hi.1, e6, up_row hi.2.2.2.2, hS i hi.2.2.2.2, e3, up_row hi.2.2.2.1, e2, up_row hi.2.2.1, e1, up_row hi.2.1]
            · rw [g4]
              refine row_ins hw hn c1 c2 c3 ha hst hgt g1 g2 g3 (fun k q1 q2 => ?_)
              rw [e7, up_row (by decide), e6]
              unfold up
              by_cases c1 : k < a
              · rw [if_neg (by omega), if_pos c1, hlo k c1]
              · rw [if_neg c1]
                by_cases c2 : k = a
                · rw [if_pos ⟨rfl, c2⟩, if_pos c2]
                · rw [if_neg (fun q => c2 q.2), if_neg c2, hhi k (by omega) q2])
        refine R_iload hB (j := 4) dX0_add_46 rfl ?_
        refine R_if_le hB 91 (by omega) dX0_add_48 rfl (fun h48 => ?_) (fun h48 => ?_)
        · exact R_sub [0, 1, 2, 3, 4] rfl (jn_91 () (Or.inl (by omega)))
        · refine R_aload_n hB (j := 0) dX0_add_51 rfl rfl ?_
          refine R_getr hB (37) fl_X0_9 dX0_add_52 rfl rfl ?_
          refine R_aload_n hB (j := 0) dX0_add_55 rfl rfl ?_
          refine R_getr hB (40) fl_X0_21 dX0_add_56 rfl rfl ?_
          refine R_iload hB (j := 4) dX0_add_59 rfl ?_
          refine R_iconst hB dX0_add_61 ?_
          refine R_isub hB dX0_add_62 ?_
          refine R_iald hB rfl (by omega) dX0_add_63 ?_
          have r0 : σ4 40 (a - 1) = σ 40 (a - 1) := hlo (a - 1) (by omega)
          have r1 := (row_ord hw (k := a - 1) (by omega)).1
          have r2 := hw.2.1 (σ 40 (a - 1)) r1.1 r1.2
          have r3 : σ4 37 (σ 40 (a - 1)) = σ 37 (σ 40 (a - 1)) := by rw [hS 37 (by decide), p5, if_neg (by omega)]
          refine R_iald hB rfl (by rw [r0]; omega) dX0_add_64 ?_
          refine R_iload_n hB (j := 1) dX0_add_65 rfl rfl ?_
          refine R_icmp_le hB 91 (by rw [r0, r3]; omega) (by omega) dX0_add_66 rfl (fun h66 => ?_) (fun h66 => ?_)
          · rw [r0, r3] at h66
            exact R_sub [0, 1, 2, 3, 4] rfl (jn_91 () (Or.inr h66))
          · rw [r0, r3] at h66
            refine R_aload_n hB (j := 0) dX0_add_69 rfl rfl ?_
            refine R_getr hB (40) fl_X0_21 dX0_add_70 rfl rfl ?_
            refine R_iload hB (j := 4) dX0_add_73 rfl ?_
            refine R_aload_n hB (j := 0) dX0_add_75 rfl rfl ?_
            refine R_getr hB (40) fl_X0_21 dX0_add_76 rfl rfl ?_
            refine R_iload hB (j := 4) dX0_add_79 rfl ?_
            refine R_iconst hB dX0_add_81 ?_
            refine R_isub hB dX0_add_82 ?_
            refine R_iald hB rfl (by omega) dX0_add_83 ?_
            refine N_iast hB rfl (by omega) (by rw [r0]; omega) dX0_add_84 (fun σ5 e5 => ?_)
            refine R_iinc hB (j := 4) (L' := [_, _, _, _, _]) dX0_add_85 rfl (Nat.le_of_ble_eq_true rfl) rfl ?_
            refine R_goto hB 46 dX0_add_88 rfl ?_
            exact R_sub [1, 2, 3, 4, 0] rfl (ih_46 _ _ (by omega) (by omega) (fun i hi => by rw [e5, up_row hi, hS i hi]) (fun k hk => by rw [e5, up_n (by omega)]; exact hlo k (by omega)) (fun k q1 q2 => by
              rw [e5]
              unfold up
              by_cases c : k = a
              · rw [if_pos ⟨rfl, c⟩, r0, c]
              · rw [if_neg (fun q => c q.2)]; exact hhi k (by omega) q2) (fun k q1 q2 => by
              by_cases c : k = a - 1
              · rw [c]; exact h66
              · exact hgt k (by omega) q2))
    exact R_sub [1, 2, 3, 4, 0] rfl (lp_46 _ (σ3 3 4) σ3 (Nat.lt_succ_self _) (by rw [p3]; omega) (fun i _ => rfl) (fun k _ => by rw [p4]) (fun k q1 q2 => by rw [p3] at q1; omega) (fun k q1 q2 => by rw [p3] at q1; omega))
  · exfalso; omega
