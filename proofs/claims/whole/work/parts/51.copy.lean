theorem s_copy {Θ : Th} {σ : Mem} (s i t j n : Int) (hs : rng s) (hi : rng i) (ht : rng t) (hj : rng j) (hn : rng n) (h : InvC σ) : Spc Θ M_X7_copy 1 [.ref (Th.r Θ 0), .int (I s), .int (I i), .int (I t), .int (I j), .int (I n)] σ (fun r σ' => (¬ ((0 ≤ s ∧ s < 4) ∧ (0 ≤ t ∧ t < 4)) ∧ r = -2 ∧ σ' = σ) ∨ (((0 ≤ s ∧ s < 4) ∧ (0 ≤ t ∧ t < 4)) ∧ (σ (18 + s.toNat) 1 = 1 ∨ σ (18 + t.toNat) 1 = 1) ∧ r = -10 - 1 ∧ σ' = up σ 0 7 1 ∧ InvC σ') ∨ (((0 ≤ s ∧ s < 4) ∧ (0 ≤ t ∧ t < 4)) ∧ (σ (18 + s.toNat) 1 = 0 ∧ σ (18 + t.toNat) 1 = 0) ∧ σ (18 + s.toNat) 2 ≠ σ (18 + t.toNat) 2 ∧ r = -10 - 4 ∧ σ' = up σ 0 7 4 ∧ InvC σ') ∨ (((0 ≤ s ∧ s < 4) ∧ (0 ≤ t ∧ t < 4)) ∧ (σ (18 + s.toNat) 1 = 0 ∧ σ (18 + t.toNat) 1 = 0) ∧ σ (18 + s.toNat) 2 = σ (18 + t.toNat) 2 ∧ ¬ (hldP (σ (18 + s.toNat)) i n ∧ hldP (σ (18 + t.toNat)) j n) ∧ r = -10 - 2 ∧ σ' = up σ 0 7 2 ∧ InvC σ') ∨ (((0 ≤ s ∧ s < 4) ∧ (0 ≤ t ∧ t < 4)) ∧ (σ (18 + s.toNat) 1 = 0 ∧ σ (18 + t.toNat) 1 = 0) ∧ σ (18 + s.toNat) 2 = σ (18 + t.toNat) 2 ∧ (hldP (σ (18 + s.toNat)) i n ∧ hldP (σ (18 + t.toNat)) j n) ∧ r = 1 ∧ σ' = cpM σ (49 + s.toNat) i (49 + t.toNat) j n ∧ InvC σ')) := by
  refine Spc_of (by decide +kernel) (Nat.le_of_ble_eq_true rfl) (fun Γ hB hE => ?_)
  show Run Θ Γ 0 [(0, .ref (Th.r Θ 0)), (1, .int (I s)), (2, .int (I i)), (3, .int (I t)), (4, .int (I j)), (5, .int (I n))] [] σ
  refine R_iload_n hB (j := 1) dX7_copy_0 rfl rfl ?_
  refine R_iconst hB dX7_copy_1 ?_
  refine P_cS1 hB (s_within _ _ (by omega) (by omega)) ms_X7_89 (by decide) dX7_copy_2 rfl rfl (Nat.le_of_ble_eq_true rfl) (fun z2 h2 => ?_)
  refine R_if_eq hB 16 (by rw [h2]; split <;> omega) dX7_copy_5 rfl (fun h5 => ?_) (fun h5 => ?_)
  · have hno : ¬ ((0 ≤ s ∧ s < 4) ∧ (0 ≤ t ∧ t < 4)) := by split at h2 <;> omega
    refine R_bipush hB dX7_copy_16 rfl ?_
    exact R_iret hB hE rfl dX7_copy_18 (Or.inl ⟨hno, rfl, rfl⟩)
  · have hy : 0 ≤ s ∧ s < 4 := by split at h2 <;> omega
    refine R_iload_n hB (j := 3) dX7_copy_8 rfl rfl ?_
    refine R_iconst hB dX7_copy_9 ?_
    refine P_cS1 hB (s_within _ _ (by omega) (by omega)) ms_X7_89 (by decide) dX7_copy_10 rfl rfl (Nat.le_of_ble_eq_true rfl) (fun z10 h10 => ?_)
    refine R_if_ne hB 19 (by rw [h10]; split <;> omega) dX7_copy_13 rfl (fun h13 => ?_) (fun h13 => ?_)
    · have hz : 0 ≤ t ∧ t < 4 := by split at h10 <;> omega
      rcases (show s = 0 ∨ s = 1 ∨ s = 2 ∨ s = 3 by omega) with rfl | rfl | rfl | rfl
      · show Run Θ Γ 19 [(0, .ref (Th.r Θ 0)), (1, .int (I 0)), (2, .int (I i)), (3, .int (I t)), (4, .int (I j)), (5, .int (I n))] [] σ
        refine R_aload_n hB (j := 0) dX7_copy_19 rfl rfl ?_
        rcases (show t = 0 ∨ t = 1 ∨ t = 2 ∨ t = 3 by omega) with rfl | rfl | rfl | rfl
        · show Run Θ Γ 20 [(0, .ref (Th.r Θ 0)), (1, .int (I 0)), (2, .int (I i)), (3, .int (I 0)), (4, .int (I j)), (5, .int (I n))] [.ref (Th.r Θ 0)] σ
          refine R_getr hB (24) fl_X7_41 dX7_copy_20 rfl rfl ?_
          refine R_iload_n hB (j := 1) dX7_copy_23 rfl rfl ?_
          refine R_aald hB (18) rfl (by decide) (by omega) rfl dX7_copy_24 ?_
          refine R_astore hB (L' := [_, _, _, _, _, _, _]) dX7_copy_25 (Nat.le_of_ble_eq_true rfl) rfl ?_
          refine R_aload_n hB (j := 1) dX7_copy_27 rfl rfl ?_
          refine R_getr hB (24) fl_X7_41 dX7_copy_28 rfl rfl ?_
          refine R_iload_n hB (j := 4) dX7_copy_31 rfl rfl ?_
          refine R_aald hB (18) rfl (by decide) (by omega) rfl dX7_copy_32 ?_
          refine R_astore hB (L' := [_, _, _, _, _, _, _, _]) dX7_copy_33 (Nat.le_of_ble_eq_true rfl) rfl ?_
          have hqa : (σ 18 1 = 0 ∨ σ 18 1 = 1) ∧ (0 ≤ σ 18 2 ∧ σ 18 2 < 3) ∧ (0 ≤ σ 18 3 ∧ σ 18 3 ≤ 60) := h.2.2.2.2.2.1 0 (by decide)
          have hqb : (σ 18 1 = 0 ∨ σ 18 1 = 1) ∧ (0 ≤ σ 18 2 ∧ σ 18 2 < 3) ∧ (0 ≤ σ 18 3 ∧ σ 18 3 ≤ 60) := h.2.2.2.2.2.1 0 (by decide)
          refine R_aload hB (j := 1) dX7_copy_35 rfl ?_
          refine R_getz hB fl_X7_233 dX7_copy_37 rfl ?_
          refine R_if_ne hB 51 (by omega) dX7_copy_40 rfl (fun h40 => ?_) (fun h40 => ?_)
          · refine R_aload_n hB (j := 2) dX7_copy_51 rfl rfl ?_
            refine R_iconst hB dX7_copy_52 ?_
            refine R_cV1 hB (s_found _ (by omega)) mv_X7_237 rfl rfl (by decide) dX7_copy_53 rfl rfl (Nat.le_of_ble_eq_true rfl) (fun z53 σ1 h53 => ?_)
            exact R_iret hB hE rfl dX7_copy_56 (Or.inr (Or.inl ⟨⟨hy, hz⟩, (by show σ 18 1 = 1 ∨ σ 18 1 = 1; omega), h53.1, h53.2, by rw [h53.2]; exact h.fnd (by omega)⟩))
          · refine R_aload hB (j := 0) dX7_copy_43 rfl ?_
            refine R_getz hB fl_X7_233 dX7_copy_45 rfl ?_
            refine R_if_eq hB 57 (by omega) dX7_copy_48 rfl (fun h48 => ?_) (fun h48 => ?_)
            · refine R_aload hB (j := 1) dX7_copy_57 rfl ?_
              refine R_geti hB fl_X7_300 dX7_copy_59 rfl ?_
              refine R_aload hB (j := 0) dX7_copy_62 rfl ?_
              refine R_geti hB fl_X7_300 dX7_copy_64 rfl ?_
              refine R_icmp_eq hB 76 (by omega) (by omega) dX7_copy_67 rfl (fun h67 => ?_) (fun h67 => ?_)
              · refine R_aload hB (j := 1) dX7_copy_76 rfl ?_
                refine R_iload_n hB (j := 4) dX7_copy_78 rfl rfl ?_
                refine R_iload hB (j := 7) dX7_copy_79 rfl ?_
                refine P_cS1 hB (s_holds_0 i n hi hn hqa.2.2) ms_X7_311 (by decide) dX7_copy_81 rfl rfl (Nat.le_of_ble_eq_true rfl) (fun z81 h81 => ?_)
                refine R_if_eq hB 99 (by omega) dX7_copy_84 rfl (fun h84 => ?_) (fun h84 => ?_)
                · refine R_aload_n hB (j := 2) dX7_copy_99 rfl rfl ?_
                  refine R_iconst hB dX7_copy_100 ?_
                  refine R_cV1 hB (s_found _ (by omega)) mv_X7_237 rfl rfl (by decide) dX7_copy_101 rfl rfl (Nat.le_of_ble_eq_true rfl) (fun z101 σ1 h101 => ?_)
                  exact R_iret hB hE rfl dX7_copy_104 (Or.inr (Or.inr (Or.inr (Or.inl ⟨⟨hy, hz⟩, (by show σ 18 1 = 0 ∧ σ 18 1 = 0; omega), (by show σ 18 2 = σ 18 2; omega), (by show ¬ (hldP (σ 18) i n ∧ hldP (σ 18) j n); unfold hldP at *; omega), h101.1, h101.2, by rw [h101.2]; exact h.fnd (by omega)⟩))))
                · refine R_aload hB (j := 0) dX7_copy_87 rfl ?_
                  refine R_iload hB (j := 6) dX7_copy_89 rfl ?_
                  refine R_iload hB (j := 7) dX7_copy_91 rfl ?_
                  refine P_cS1 hB (s_holds_0 j n hj hn hqb.2.2) ms_X7_311 (by decide) dX7_copy_93 rfl rfl (Nat.le_of_ble_eq_true rfl) (fun z93 h93 => ?_)
                  refine R_if_ne hB 105 (by omega) dX7_copy_96 rfl (fun h96 => ?_) (fun h96 => ?_)
                  · refine R_aload hB (j := 1) dX7_copy_105 rfl ?_
                    refine R_getr hB (49) fl_X7_241 dX7_copy_107 rfl rfl ?_
                    refine R_iload_n hB (j := 4) dX7_copy_110 rfl rfl ?_
                    refine R_aload hB (j := 0) dX7_copy_111 rfl ?_
                    refine R_getr hB (49) fl_X7_241 dX7_copy_113 rfl rfl ?_
                    refine R_iload hB (j := 6) dX7_copy_116 rfl ?_
                    refine R_iload hB (j := 7) dX7_copy_118 rfl ?_
                    refine N_acopy hB rfl rfl (by decide) (by unfold hldP at *; omega) (by unfold hldP at *; omega) (by unfold hldP at *; omega) ac_link ac_native ac_static ac_init (by decide) dX7_copy_120 (Nat.le_of_ble_eq_true rfl) (fun σ1 e1 => ?_)
                    refine R_iconst hB dX7_copy_123 ?_
                    exact R_iret hB hE rfl dX7_copy_124 (Or.inr (Or.inr (Or.inr (Or.inr ⟨⟨hy, hz⟩, (by show σ 18 1 = 0 ∧ σ 18 1 = 0; omega), (by show σ 18 2 = σ 18 2; omega), (by show hldP (σ 18) i n ∧ hldP (σ 18) j n; unfold hldP at *; omega), rfl, e1, h.sh (fun x hi => by
                        simp only [List.mem_cons, List.not_mem_nil, or_false, not_or] at hi
                        rw [e1, cpM_row (by omega)]) (by rw [e1, cpM_row (by decide)]) (by rw [e1, cpM_row (by decide)]; exact h.2.2.2.2.2.2) (fun x hx => by rw [e1, cpM_row (by omega)]; exact h.2.2.2.2.2.1 x hx)⟩))))
                  · refine R_aload_n hB (j := 2) dX7_copy_99 rfl rfl ?_
                    refine R_iconst hB dX7_copy_100 ?_
                    refine R_cV1 hB (s_found _ (by omega)) mv_X7_237 rfl rfl (by decide) dX7_copy_101 rfl rfl (Nat.le_of_ble_eq_true rfl) (fun z101 σ1 h101 => ?_)
                    exact R_iret hB hE rfl dX7_copy_104 (Or.inr (Or.inr (Or.inr (Or.inl ⟨⟨hy, hz⟩, (by show σ 18 1 = 0 ∧ σ 18 1 = 0; omega), (by show σ 18 2 = σ 18 2; omega), (by show ¬ (hldP (σ 18) i n ∧ hldP (σ 18) j n); unfold hldP at *; omega), h101.1, h101.2, by rw [h101.2]; exact h.fnd (by omega)⟩))))
              · refine R_aload_n hB (j := 2) dX7_copy_70 rfl rfl ?_
                refine R_iconst hB dX7_copy_71 ?_
                refine R_cV1 hB (s_found _ (by omega)) mv_X7_237 rfl rfl (by decide) dX7_copy_72 rfl rfl (Nat.le_of_ble_eq_true rfl) (fun z72 σ1 h72 => ?_)
                exact R_iret hB hE rfl dX7_copy_75 (Or.inr (Or.inr (Or.inl ⟨⟨hy, hz⟩, (by show σ 18 1 = 0 ∧ σ 18 1 = 0; omega), (by show σ 18 2 ≠ σ 18 2; omega), h72.1, h72.2, by rw [h72.2]; exact h.fnd (by omega)⟩)))
            · refine R_aload_n hB (j := 2) dX7_copy_51 rfl rfl ?_
              refine R_iconst hB dX7_copy_52 ?_
              refine R_cV1 hB (s_found _ (by omega)) mv_X7_237 rfl rfl (by decide) dX7_copy_53 rfl rfl (Nat.le_of_ble_eq_true rfl) (fun z53 σ1 h53 => ?_)
              exact R_iret hB hE rfl dX7_copy_56 (Or.inr (Or.inl ⟨⟨hy, hz⟩, (by show σ 18 1 = 1 ∨ σ 18 1 = 1; omega), h53.1, h53.2, by rw [h53.2]; exact h.fnd (by omega)⟩))
        · show Run Θ Γ 20 [(0, .ref (Th.r Θ 0)), (1, .int (I 0)), (2, .int (I i)), (3, .int (I 1)), (4, .int (I j)), (5, .int (I n))] [.ref (Th.r Θ 0)] σ
          refine R_getr hB (24) fl_X7_41 dX7_copy_20 rfl rfl ?_
          refine R_iload_n hB (j := 1) dX7_copy_23 rfl rfl ?_
          refine R_aald hB (18) rfl (by decide) (by omega) rfl dX7_copy_24 ?_
          refine R_astore hB (L' := [_, _, _, _, _, _, _]) dX7_copy_25 (Nat.le_of_ble_eq_true rfl) rfl ?_
          refine R_aload_n hB (j := 1) dX7_copy_27 rfl rfl ?_
          refine R_getr hB (24) fl_X7_41 dX7_copy_28 rfl rfl ?_
          refine R_iload_n hB (j := 4) dX7_copy_31 rfl rfl ?_
          refine R_aald hB (19) rfl (by decide) (by omega) rfl dX7_copy_32 ?_
          refine R_astore hB (L' := [_, _, _, _, _, _, _, _]) dX7_copy_33 (Nat.le_of_ble_eq_true rfl) rfl ?_
          have hqa : (σ 18 1 = 0 ∨ σ 18 1 = 1) ∧ (0 ≤ σ 18 2 ∧ σ 18 2 < 3) ∧ (0 ≤ σ 18 3 ∧ σ 18 3 ≤ 60) := h.2.2.2.2.2.1 0 (by decide)
          have hqb : (σ 19 1 = 0 ∨ σ 19 1 = 1) ∧ (0 ≤ σ 19 2 ∧ σ 19 2 < 3) ∧ (0 ≤ σ 19 3 ∧ σ 19 3 ≤ 60) := h.2.2.2.2.2.1 1 (by decide)
          refine R_aload hB (j := 1) dX7_copy_35 rfl ?_
          refine R_getz hB fl_X7_233 dX7_copy_37 rfl ?_
          refine R_if_ne hB 51 (by omega) dX7_copy_40 rfl (fun h40 => ?_) (fun h40 => ?_)
          · refine R_aload_n hB (j := 2) dX7_copy_51 rfl rfl ?_
            refine R_iconst hB dX7_copy_52 ?_
            refine R_cV1 hB (s_found _ (by omega)) mv_X7_237 rfl rfl (by decide) dX7_copy_53 rfl rfl (Nat.le_of_ble_eq_true rfl) (fun z53 σ1 h53 => ?_)
            exact R_iret hB hE rfl dX7_copy_56 (Or.inr (Or.inl ⟨⟨hy, hz⟩, (by show σ 18 1 = 1 ∨ σ 19 1 = 1; omega), h53.1, h53.2, by rw [h53.2]; exact h.fnd (by omega)⟩))
          · refine R_aload hB (j := 0) dX7_copy_43 rfl ?_
            refine R_getz hB fl_X7_233 dX7_copy_45 rfl ?_
            refine R_if_eq hB 57 (by omega) dX7_copy_48 rfl (fun h48 => ?_) (fun h48 => ?_)
            · refine R_aload hB (j := 1) dX7_copy_57 rfl ?_
              refine R_geti hB fl_X7_300 dX7_copy_59 rfl ?_
              refine R_aload hB (j := 0) dX7_copy_62 rfl ?_
              refine R_geti hB fl_X7_300 dX7_copy_64 rfl ?_
              refine R_icmp_eq hB 76 (by omega) (by omega) dX7_copy_67 rfl (fun h67 => ?_) (fun h67 => ?_)
              · refine R_aload hB (j := 1) dX7_copy_76 rfl ?_
                refine R_iload_n hB (j := 4) dX7_copy_78 rfl rfl ?_
                refine R_iload hB (j := 7) dX7_copy_79 rfl ?_
                refine P_cS1 hB (s_holds_0 i n hi hn hqa.2.2) ms_X7_311 (by decide) dX7_copy_81 rfl rfl (Nat.le_of_ble_eq_true rfl) (fun z81 h81 => ?_)
                refine R_if_eq hB 99 (by omega) dX7_copy_84 rfl (fun h84 => ?_) (fun h84 => ?_)
                · refine R_aload_n hB (j := 2) dX7_copy_99 rfl rfl ?_
                  refine R_iconst hB dX7_copy_100 ?_
                  refine R_cV1 hB (s_found _ (by omega)) mv_X7_237 rfl rfl (by decide) dX7_copy_101 rfl rfl (Nat.le_of_ble_eq_true rfl) (fun z101 σ1 h101 => ?_)
                  exact R_iret hB hE rfl dX7_copy_104 (Or.inr (Or.inr (Or.inr (Or.inl ⟨⟨hy, hz⟩, (by show σ 18 1 = 0 ∧ σ 19 1 = 0; omega), (by show σ 18 2 = σ 19 2; omega), (by show ¬ (hldP (σ 18) i n ∧ hldP (σ 19) j n); unfold hldP at *; omega), h101.1, h101.2, by rw [h101.2]; exact h.fnd (by omega)⟩))))
                · refine R_aload hB (j := 0) dX7_copy_87 rfl ?_
                  refine R_iload hB (j := 6) dX7_copy_89 rfl ?_
                  refine R_iload hB (j := 7) dX7_copy_91 rfl ?_
                  refine P_cS1 hB (s_holds_1 j n hj hn hqb.2.2) ms_X7_311 (by decide) dX7_copy_93 rfl rfl (Nat.le_of_ble_eq_true rfl) (fun z93 h93 => ?_)
                  refine R_if_ne hB 105 (by omega) dX7_copy_96 rfl (fun h96 => ?_) (fun h96 => ?_)
                  · refine R_aload hB (j := 1) dX7_copy_105 rfl ?_
                    refine R_getr hB (49) fl_X7_241 dX7_copy_107 rfl rfl ?_
                    refine R_iload_n hB (j := 4) dX7_copy_110 rfl rfl ?_
                    refine R_aload hB (j := 0) dX7_copy_111 rfl ?_
                    refine R_getr hB (50) fl_X7_241 dX7_copy_113 rfl rfl ?_
                    refine R_iload hB (j := 6) dX7_copy_116 rfl ?_
                    refine R_iload hB (j := 7) dX7_copy_118 rfl ?_
                    refine N_acopy hB rfl rfl (by decide) (by unfold hldP at *; omega) (by unfold hldP at *; omega) (by unfold hldP at *; omega) ac_link ac_native ac_static ac_init (by decide) dX7_copy_120 (Nat.le_of_ble_eq_true rfl) (fun σ1 e1 => ?_)
                    refine R_iconst hB dX7_copy_123 ?_
                    exact R_iret hB hE rfl dX7_copy_124 (Or.inr (Or.inr (Or.inr (Or.inr ⟨⟨hy, hz⟩, (by show σ 18 1 = 0 ∧ σ 19 1 = 0; omega), (by show σ 18 2 = σ 19 2; omega), (by show hldP (σ 18) i n ∧ hldP (σ 19) j n; unfold hldP at *; omega), rfl, e1, h.sh (fun x hi => by
                        simp only [List.mem_cons, List.not_mem_nil, or_false, not_or] at hi
                        rw [e1, cpM_row (by omega)]) (by rw [e1, cpM_row (by decide)]) (by rw [e1, cpM_row (by decide)]; exact h.2.2.2.2.2.2) (fun x hx => by rw [e1, cpM_row (by omega)]; exact h.2.2.2.2.2.1 x hx)⟩))))
                  · refine R_aload_n hB (j := 2) dX7_copy_99 rfl rfl ?_
                    refine R_iconst hB dX7_copy_100 ?_
                    refine R_cV1 hB (s_found _ (by omega)) mv_X7_237 rfl rfl (by decide) dX7_copy_101 rfl rfl (Nat.le_of_ble_eq_true rfl) (fun z101 σ1 h101 => ?_)
                    exact R_iret hB hE rfl dX7_copy_104 (Or.inr (Or.inr (Or.inr (Or.inl ⟨⟨hy, hz⟩, (by show σ 18 1 = 0 ∧ σ 19 1 = 0; omega), (by show σ 18 2 = σ 19 2; omega), (by show ¬ (hldP (σ 18) i n ∧ hldP (σ 19) j n); unfold hldP at *; omega), h101.1, h101.2, by rw [h101.2]; exact h.fnd (by omega)⟩))))
              · refine R_aload_n hB (j := 2) dX7_copy_70 rfl rfl ?_
                refine R_iconst hB dX7_copy_71 ?_
                refine R_cV1 hB (s_found _ (by omega)) mv_X7_237 rfl rfl (by decide) dX7_copy_72 rfl rfl (Nat.le_of_ble_eq_true rfl) (fun z72 σ1 h72 => ?_)
                exact R_iret hB hE rfl dX7_copy_75 (Or.inr (Or.inr (Or.inl ⟨⟨hy, hz⟩, (by show σ 18 1 = 0 ∧ σ 19 1 = 0; omega), (by show σ 18 2 ≠ σ 19 2; omega), h72.1, h72.2, by rw [h72.2]; exact h.fnd (by omega)⟩)))
            · refine R_aload_n hB (j := 2) dX7_copy_51 rfl rfl ?_
              refine R_iconst hB dX7_copy_52 ?_
              refine R_cV1 hB (s_found _ (by omega)) mv_X7_237 rfl rfl (by decide) dX7_copy_53 rfl rfl (Nat.le_of_ble_eq_true rfl) (fun z53 σ1 h53 => ?_)
              exact R_iret hB hE rfl dX7_copy_56 (Or.inr (Or.inl ⟨⟨hy, hz⟩, (by show σ 18 1 = 1 ∨ σ 19 1 = 1; omega), h53.1, h53.2, by rw [h53.2]; exact h.fnd (by omega)⟩))
        · show Run Θ Γ 20 [(0, .ref (Th.r Θ 0)), (1, .int (I 0)), (2, .int (I i)), (3, .int (I 2)), (4, .int (I j)), (5, .int (I n))] [.ref (Th.r Θ 0)] σ
          refine R_getr hB (24) fl_X7_41 dX7_copy_20 rfl rfl ?_
          refine R_iload_n hB (j := 1) dX7_copy_23 rfl rfl ?_
          refine R_aald hB (18) rfl (by decide) (by omega) rfl dX7_copy_24 ?_
          refine R_astore hB (L' := [_, _, _, _, _, _, _]) dX7_copy_25 (Nat.le_of_ble_eq_true rfl) rfl ?_
          refine R_aload_n hB (j := 1) dX7_copy_27 rfl rfl ?_
          refine R_getr hB (24) fl_X7_41 dX7_copy_28 rfl rfl ?_
          refine R_iload_n hB (j := 4) dX7_copy_31 rfl rfl ?_
          refine R_aald hB (20) rfl (by decide) (by omega) rfl dX7_copy_32 ?_
          refine R_astore hB (L' := [_, _, _, _, _, _, _, _]) dX7_copy_33 (Nat.le_of_ble_eq_true rfl) rfl ?_
          have hqa : (σ 18 1 = 0 ∨ σ 18 1 = 1) ∧ (0 ≤ σ 18 2 ∧ σ 18 2 < 3) ∧ (0 ≤ σ 18 3 ∧ σ 18 3 ≤ 60) := h.2.2.2.2.2.1 0 (by decide)
          have hqb : (σ 20 1 = 0 ∨ σ 20 1 = 1) ∧ (0 ≤ σ 20 2 ∧ σ 20 2 < 3) ∧ (0 ≤ σ 20 3 ∧ σ 20 3 ≤ 60) := h.2.2.2.2.2.1 2 (by decide)
          refine R_aload hB (j := 1) dX7_copy_35 rfl ?_
          refine R_getz hB fl_X7_233 dX7_copy_37 rfl ?_
          refine R_if_ne hB 51 (by omega) dX7_copy_40 rfl (fun h40 => ?_) (fun h40 => ?_)
          · refine R_aload_n hB (j := 2) dX7_copy_51 rfl rfl ?_
            refine R_iconst hB dX7_copy_52 ?_
            refine R_cV1 hB (s_found _ (by omega)) mv_X7_237 rfl rfl (by decide) dX7_copy_53 rfl rfl (Nat.le_of_ble_eq_true rfl) (fun z53 σ1 h53 => ?_)
            exact R_iret hB hE rfl dX7_copy_56 (Or.inr (Or.inl ⟨⟨hy, hz⟩, (by show σ 18 1 = 1 ∨ σ 20 1 = 1; omega), h53.1, h53.2, by rw [h53.2]; exact h.fnd (by omega)⟩))
          · refine R_aload hB (j := 0) dX7_copy_43 rfl ?_
            refine R_getz hB fl_X7_233 dX7_copy_45 rfl ?_
            refine R_if_eq hB 57 (by omega) dX7_copy_48 rfl (fun h48 => ?_) (fun h48 => ?_)
            · refine R_aload hB (j := 1) dX7_copy_57 rfl ?_
              refine R_geti hB fl_X7_300 dX7_copy_59 rfl ?_
              refine R_aload hB (j := 0) dX7_copy_62 rfl ?_
              refine R_geti hB fl_X7_300 dX7_copy_64 rfl ?_
              refine R_icmp_eq hB 76 (by omega) (by omega) dX7_copy_67 rfl (fun h67 => ?_) (fun h67 => ?_)
              · refine R_aload hB (j := 1) dX7_copy_76 rfl ?_
                refine R_iload_n hB (j := 4) dX7_copy_78 rfl rfl ?_
                refine R_iload hB (j := 7) dX7_copy_79 rfl ?_
                refine P_cS1 hB (s_holds_0 i n hi hn hqa.2.2) ms_X7_311 (by decide) dX7_copy_81 rfl rfl (Nat.le_of_ble_eq_true rfl) (fun z81 h81 => ?_)
                refine R_if_eq hB 99 (by omega) dX7_copy_84 rfl (fun h84 => ?_) (fun h84 => ?_)
                · refine R_aload_n hB (j := 2) dX7_copy_99 rfl rfl ?_
                  refine R_iconst hB dX7_copy_100 ?_
                  refine R_cV1 hB (s_found _ (by omega)) mv_X7_237 rfl rfl (by decide) dX7_copy_101 rfl rfl (Nat.le_of_ble_eq_true rfl) (fun z101 σ1 h101 => ?_)
                  exact R_iret hB hE rfl dX7_copy_104 (Or.inr (Or.inr (Or.inr (Or.inl ⟨⟨hy, hz⟩, (by show σ 18 1 = 0 ∧ σ 20 1 = 0; omega), (by show σ 18 2 = σ 20 2; omega), (by show ¬ (hldP (σ 18) i n ∧ hldP (σ 20) j n); unfold hldP at *; omega), h101.1, h101.2, by rw [h101.2]; exact h.fnd (by omega)⟩))))
                · refine R_aload hB (j := 0) dX7_copy_87 rfl ?_
                  refine R_iload hB (j := 6) dX7_copy_89 rfl ?_
                  refine R_iload hB (j := 7) dX7_copy_91 rfl ?_
                  refine P_cS1 hB (s_holds_2 j n hj hn hqb.2.2) ms_X7_311 (by decide) dX7_copy_93 rfl rfl (Nat.le_of_ble_eq_true rfl) (fun z93 h93 => ?_)
                  refine R_if_ne hB 105 (by omega) dX7_copy_96 rfl (fun h96 => ?_) (fun h96 => ?_)
                  · refine R_aload hB (j := 1) dX7_copy_105 rfl ?_
                    refine R_getr hB (49) fl_X7_241 dX7_copy_107 rfl rfl ?_
                    refine R_iload_n hB (j := 4) dX7_copy_110 rfl rfl ?_
                    refine R_aload hB (j := 0) dX7_copy_111 rfl ?_
                    refine R_getr hB (51) fl_X7_241 dX7_copy_113 rfl rfl ?_
                    refine R_iload hB (j := 6) dX7_copy_116 rfl ?_
                    refine R_iload hB (j := 7) dX7_copy_118 rfl ?_
                    refine N_acopy hB rfl rfl (by decide) (by unfold hldP at *; omega) (by unfold hldP at *; omega) (by unfold hldP at *; omega) ac_link ac_native ac_static ac_init (by decide) dX7_copy_120 (Nat.le_of_ble_eq_true rfl) (fun σ1 e1 => ?_)
                    refine R_iconst hB dX7_copy_123 ?_
                    exact R_iret hB hE rfl dX7_copy_124 (Or.inr (Or.inr (Or.inr (Or.inr ⟨⟨hy, hz⟩, (by show σ 18 1 = 0 ∧ σ 20 1 = 0; omega), (by show σ 18 2 = σ 20 2; omega), (by show hldP (σ 18) i n ∧ hldP (σ 20) j n; unfold hldP at *; omega), rfl, e1, h.sh (fun x hi => by
                        simp only [List.mem_cons, List.not_mem_nil, or_false, not_or] at hi
                        rw [e1, cpM_row (by omega)]) (by rw [e1, cpM_row (by decide)]) (by rw [e1, cpM_row (by decide)]; exact h.2.2.2.2.2.2) (fun x hx => by rw [e1, cpM_row (by omega)]; exact h.2.2.2.2.2.1 x hx)⟩))))
                  · refine R_aload_n hB (j := 2) dX7_copy_99 rfl rfl ?_
                    refine R_iconst hB dX7_copy_100 ?_
                    refine R_cV1 hB (s_found _ (by omega)) mv_X7_237 rfl rfl (by decide) dX7_copy_101 rfl rfl (Nat.le_of_ble_eq_true rfl) (fun z101 σ1 h101 => ?_)
                    exact R_iret hB hE rfl dX7_copy_104 (Or.inr (Or.inr (Or.inr (Or.inl ⟨⟨hy, hz⟩, (by show σ 18 1 = 0 ∧ σ 20 1 = 0; omega), (by show σ 18 2 = σ 20 2; omega), (by show ¬ (hldP (σ 18) i n ∧ hldP (σ 20) j n); unfold hldP at *; omega), h101.1, h101.2, by rw [h101.2]; exact h.fnd (by omega)⟩))))
              · refine R_aload_n hB (j := 2) dX7_copy_70 rfl rfl ?_
                refine R_iconst hB dX7_copy_71 ?_
                refine R_cV1 hB (s_found _ (by omega)) mv_X7_237 rfl rfl (by decide) dX7_copy_72 rfl rfl (Nat.le_of_ble_eq_true rfl) (fun z72 σ1 h72 => ?_)
                exact R_iret hB hE rfl dX7_copy_75 (Or.inr (Or.inr (Or.inl ⟨⟨hy, hz⟩, (by show σ 18 1 = 0 ∧ σ 20 1 = 0; omega), (by show σ 18 2 ≠ σ 20 2; omega), h72.1, h72.2, by rw [h72.2]; exact h.fnd (by omega)⟩)))
            · refine R_aload_n hB (j := 2) dX7_copy_51 rfl rfl ?_
              refine R_iconst hB dX7_copy_52 ?_
              refine R_cV1 hB (s_found _ (by omega)) mv_X7_237 rfl rfl (by decide) dX7_copy_53 rfl rfl (Nat.le_of_ble_eq_true rfl) (fun z53 σ1 h53 => ?_)
              exact R_iret hB hE rfl dX7_copy_56 (Or.inr (Or.inl ⟨⟨hy, hz⟩, (by show σ 18 1 = 1 ∨ σ 20 1 = 1; omega), h53.1, h53.2, by rw [h53.2]; exact h.fnd (by omega)⟩))
        · show Run Θ Γ 20 [(0, .ref (Th.r Θ 0)), (1, .int (I 0)), (2, .int (I i)), (3, .int (I 3)), (4, .int (I j)), (5, .int (I n))] [.ref (Th.r Θ 0)] σ
          refine R_getr hB (24) fl_X7_41 dX7_copy_20 rfl rfl ?_
          refine R_iload_n hB (j := 1) dX7_copy_23 rfl rfl ?_
          refine R_aald hB (18) rfl (by decide) (by omega) rfl dX7_copy_24 ?_
          refine R_astore hB (L' := [_, _, _, _, _, _, _]) dX7_copy_25 (Nat.le_of_ble_eq_true rfl) rfl ?_
          refine R_aload_n hB (j := 1) dX7_copy_27 rfl rfl ?_
          refine R_getr hB (24) fl_X7_41 dX7_copy_28 rfl rfl ?_
          refine R_iload_n hB (j := 4) dX7_copy_31 rfl rfl ?_
          refine R_aald hB (21) rfl (by decide) (by omega) rfl dX7_copy_32 ?_
          refine R_astore hB (L' := [_, _, _, _, _, _, _, _]) dX7_copy_33 (Nat.le_of_ble_eq_true rfl) rfl ?_
          have hqa : (σ 18 1 = 0 ∨ σ 18 1 = 1) ∧ (0 ≤ σ 18 2 ∧ σ 18 2 < 3) ∧ (0 ≤ σ 18 3 ∧ σ 18 3 ≤ 60) := h.2.2.2.2.2.1 0 (by decide)
          have hqb : (σ 21 1 = 0 ∨ σ 21 1 = 1) ∧ (0 ≤ σ 21 2 ∧ σ 21 2 < 3) ∧ (0 ≤ σ 21 3 ∧ σ 21 3 ≤ 60) := h.2.2.2.2.2.1 3 (by decide)
          refine R_aload hB (j := 1) dX7_copy_35 rfl ?_
          refine R_getz hB fl_X7_233 dX7_copy_37 rfl ?_
          refine R_if_ne hB 51 (by omega) dX7_copy_40 rfl (fun h40 => ?_) (fun h40 => ?_)
          · refine R_aload_n hB (j := 2) dX7_copy_51 rfl rfl ?_
            refine R_iconst hB dX7_copy_52 ?_
            refine R_cV1 hB (s_found _ (by omega)) mv_X7_237 rfl rfl (by decide) dX7_copy_53 rfl rfl (Nat.le_of_ble_eq_true rfl) (fun z53 σ1 h53 => ?_)
            exact R_iret hB hE rfl dX7_copy_56 (Or.inr (Or.inl ⟨⟨hy, hz⟩, (by show σ 18 1 = 1 ∨ σ 21 1 = 1; omega), h53.1, h53.2, by rw [h53.2]; exact h.fnd (by omega)⟩))
          · refine R_aload hB (j := 0) dX7_copy_43 rfl ?_
            refine R_getz hB fl_X7_233 dX7_copy_45 rfl ?_
            refine R_if_eq hB 57 (by omega) dX7_copy_48 rfl (fun h48 => ?_) (fun h48 => ?_)
            · refine R_aload hB (j := 1) dX7_copy_57 rfl ?_
              refine R_geti hB fl_X7_300 dX7_copy_59 rfl ?_
              refine R_aload hB (j := 0) dX7_copy_62 rfl ?_
              refine R_geti hB fl_X7_300 dX7_copy_64 rfl ?_
              refine R_icmp_eq hB 76 (by omega) (by omega) dX7_copy_67 rfl (fun h67 => ?_) (fun h67 => ?_)
              · refine R_aload hB (j := 1) dX7_copy_76 rfl ?_
                refine R_iload_n hB (j := 4) dX7_copy_78 rfl rfl ?_
                refine R_iload hB (j := 7) dX7_copy_79 rfl ?_
                refine P_cS1 hB (s_holds_0 i n hi hn hqa.2.2) ms_X7_311 (by decide) dX7_copy_81 rfl rfl (Nat.le_of_ble_eq_true rfl) (fun z81 h81 => ?_)
                refine R_if_eq hB 99 (by omega) dX7_copy_84 rfl (fun h84 => ?_) (fun h84 => ?_)
                · refine R_aload_n hB (j := 2) dX7_copy_99 rfl rfl ?_
                  refine R_iconst hB dX7_copy_100 ?_
                  refine R_cV1 hB (s_found _ (by omega)) mv_X7_237 rfl rfl (by decide) dX7_copy_101 rfl rfl (Nat.le_of_ble_eq_true rfl) (fun z101 σ1 h101 => ?_)
                  exact R_iret hB hE rfl dX7_copy_104 (Or.inr (Or.inr (Or.inr (Or.inl ⟨⟨hy, hz⟩, (by show σ 18 1 = 0 ∧ σ 21 1 = 0; omega), (by show σ 18 2 = σ 21 2; omega), (by show ¬ (hldP (σ 18) i n ∧ hldP (σ 21) j n); unfold hldP at *; omega), h101.1, h101.2, by rw [h101.2]; exact h.fnd (by omega)⟩))))
                · refine R_aload hB (j := 0) dX7_copy_87 rfl ?_
                  refine R_iload hB (j := 6) dX7_copy_89 rfl ?_
                  refine R_iload hB (j := 7) dX7_copy_91 rfl ?_
                  refine P_cS1 hB (s_holds_3 j n hj hn hqb.2.2) ms_X7_311 (by decide) dX7_copy_93 rfl rfl (Nat.le_of_ble_eq_true rfl) (fun z93 h93 => ?_)
                  refine R_if_ne hB 105 (by omega) dX7_copy_96 rfl (fun h96 => ?_) (fun h96 => ?_)
                  · refine R_aload hB (j := 1) dX7_copy_105 rfl ?_
                    refine R_getr hB (49) fl_X7_241 dX7_copy_107 rfl rfl ?_
                    refine R_iload_n hB (j := 4) dX7_copy_110 rfl rfl ?_
                    refine R_aload hB (j := 0) dX7_copy_111 rfl ?_
                    refine R_getr hB (52) fl_X7_241 dX7_copy_113 rfl rfl ?_
                    refine R_iload hB (j := 6) dX7_copy_116 rfl ?_
                    refine R_iload hB (j := 7) dX7_copy_118 rfl ?_
                    refine N_acopy hB rfl rfl (by decide) (by unfold hldP at *; omega) (by unfold hldP at *; omega) (by unfold hldP at *; omega) ac_link ac_native ac_static ac_init (by decide) dX7_copy_120 (Nat.le_of_ble_eq_true rfl) (fun σ1 e1 => ?_)
                    refine R_iconst hB dX7_copy_123 ?_
                    exact R_iret hB hE rfl dX7_copy_124 (Or.inr (Or.inr (Or.inr (Or.inr ⟨⟨hy, hz⟩, (by show σ 18 1 = 0 ∧ σ 21 1 = 0; omega), (by show σ 18 2 = σ 21 2; omega), (by show hldP (σ 18) i n ∧ hldP (σ 21) j n; unfold hldP at *; omega), rfl, e1, h.sh (fun x hi => by
                        simp only [List.mem_cons, List.not_mem_nil, or_false, not_or] at hi
                        rw [e1, cpM_row (by omega)]) (by rw [e1, cpM_row (by decide)]) (by rw [e1, cpM_row (by decide)]; exact h.2.2.2.2.2.2) (fun x hx => by rw [e1, cpM_row (by omega)]; exact h.2.2.2.2.2.1 x hx)⟩))))
                  · refine R_aload_n hB (j := 2) dX7_copy_99 rfl rfl ?_
                    refine R_iconst hB dX7_copy_100 ?_
                    refine R_cV1 hB (s_found _ (by omega)) mv_X7_237 rfl rfl (by decide) dX7_copy_101 rfl rfl (Nat.le_of_ble_eq_true rfl) (fun z101 σ1 h101 => ?_)
                    exact R_iret hB hE rfl dX7_copy_104 (Or.inr (Or.inr (Or.inr (Or.inl ⟨⟨hy, hz⟩, (by show σ 18 1 = 0 ∧ σ 21 1 = 0; omega), (by show σ 18 2 = σ 21 2; omega), (by show ¬ (hldP (σ 18) i n ∧ hldP (σ 21) j n); unfold hldP at *; omega), h101.1, h101.2, by rw [h101.2]; exact h.fnd (by omega)⟩))))
              · refine R_aload_n hB (j := 2) dX7_copy_70 rfl rfl ?_
                refine R_iconst hB dX7_copy_71 ?_
                refine R_cV1 hB (s_found _ (by omega)) mv_X7_237 rfl rfl (by decide) dX7_copy_72 rfl rfl (Nat.le_of_ble_eq_true rfl) (fun z72 σ1 h72 => ?_)
                exact R_iret hB hE rfl dX7_copy_75 (Or.inr (Or.inr (Or.inl ⟨⟨hy, hz⟩, (by show σ 18 1 = 0 ∧ σ 21 1 = 0; omega), (by show σ 18 2 ≠ σ 21 2; omega), h72.1, h72.2, by rw [h72.2]; exact h.fnd (by omega)⟩)))
            · refine R_aload_n hB (j := 2) dX7_copy_51 rfl rfl ?_
              refine R_iconst hB dX7_copy_52 ?_
              refine R_cV1 hB (s_found _ (by omega)) mv_X7_237 rfl rfl (by decide) dX7_copy_53 rfl rfl (Nat.le_of_ble_eq_true rfl) (fun z53 σ1 h53 => ?_)
              exact R_iret hB hE rfl dX7_copy_56 (Or.inr (Or.inl ⟨⟨hy, hz⟩, (by show σ 18 1 = 1 ∨ σ 21 1 = 1; omega), h53.1, h53.2, by rw [h53.2]; exact h.fnd (by omega)⟩))
      · show Run Θ Γ 19 [(0, .ref (Th.r Θ 0)), (1, .int (I 1)), (2, .int (I i)), (3, .int (I t)), (4, .int (I j)), (5, .int (I n))] [] σ
        refine R_aload_n hB (j := 0) dX7_copy_19 rfl rfl ?_
        rcases (show t = 0 ∨ t = 1 ∨ t = 2 ∨ t = 3 by omega) with rfl | rfl | rfl | rfl
        · show Run Θ Γ 20 [(0, .ref (Th.r Θ 0)), (1, .int (I 1)), (2, .int (I i)), (3, .int (I 0)), (4, .int (I j)), (5, .int (I n))] [.ref (Th.r Θ 0)] σ
          refine R_getr hB (24) fl_X7_41 dX7_copy_20 rfl rfl ?_
          refine R_iload_n hB (j := 1) dX7_copy_23 rfl rfl ?_
          refine R_aald hB (19) rfl (by decide) (by omega) rfl dX7_copy_24 ?_
          refine R_astore hB (L' := [_, _, _, _, _, _, _]) dX7_copy_25 (Nat.le_of_ble_eq_true rfl) rfl ?_
          refine R_aload_n hB (j := 1) dX7_copy_27 rfl rfl ?_
          refine R_getr hB (24) fl_X7_41 dX7_copy_28 rfl rfl ?_
          refine R_iload_n hB (j := 4) dX7_copy_31 rfl rfl ?_
          refine R_aald hB (18) rfl (by decide) (by omega) rfl dX7_copy_32 ?_
          refine R_astore hB (L' := [_, _, _, _, _, _, _, _]) dX7_copy_33 (Nat.le_of_ble_eq_true rfl) rfl ?_
          have hqa : (σ 19 1 = 0 ∨ σ 19 1 = 1) ∧ (0 ≤ σ 19 2 ∧ σ 19 2 < 3) ∧ (0 ≤ σ 19 3 ∧ σ 19 3 ≤ 60) := h.2.2.2.2.2.1 1 (by decide)
          have hqb : (σ 18 1 = 0 ∨ σ 18 1 = 1) ∧ (0 ≤ σ 18 2 ∧ σ 18 2 < 3) ∧ (0 ≤ σ 18 3 ∧ σ 18 3 ≤ 60) := h.2.2.2.2.2.1 0 (by decide)
          refine R_aload hB (j := 1) dX7_copy_35 rfl ?_
          refine R_getz hB fl_X7_233 dX7_copy_37 rfl ?_
          refine R_if_ne hB 51 (by omega) dX7_copy_40 rfl (fun h40 => ?_) (fun h40 => ?_)
          · refine R_aload_n hB (j := 2) dX7_copy_51 rfl rfl ?_
            refine R_iconst hB dX7_copy_52 ?_
            refine R_cV1 hB (s_found _ (by omega)) mv_X7_237 rfl rfl (by decide) dX7_copy_53 rfl rfl (Nat.le_of_ble_eq_true rfl) (fun z53 σ1 h53 => ?_)
            exact R_iret hB hE rfl dX7_copy_56 (Or.inr (Or.inl ⟨⟨hy, hz⟩, (by show σ 19 1 = 1 ∨ σ 18 1 = 1; omega), h53.1, h53.2, by rw [h53.2]; exact h.fnd (by omega)⟩))
          · refine R_aload hB (j := 0) dX7_copy_43 rfl ?_
            refine R_getz hB fl_X7_233 dX7_copy_45 rfl ?_
            refine R_if_eq hB 57 (by omega) dX7_copy_48 rfl (fun h48 => ?_) (fun h48 => ?_)
            · refine R_aload hB (j := 1) dX7_copy_57 rfl ?_
              refine R_geti hB fl_X7_300 dX7_copy_59 rfl ?_
              refine R_aload hB (j := 0) dX7_copy_62 rfl ?_
              refine R_geti hB fl_X7_300 dX7_copy_64 rfl ?_
              refine R_icmp_eq hB 76 (by omega) (by omega) dX7_copy_67 rfl (fun h67 => ?_) (fun h67 => ?_)
              · refine R_aload hB (j := 1) dX7_copy_76 rfl ?_
                refine R_iload_n hB (j := 4) dX7_copy_78 rfl rfl ?_
                refine R_iload hB (j := 7) dX7_copy_79 rfl ?_
                refine P_cS1 hB (s_holds_1 i n hi hn hqa.2.2) ms_X7_311 (by decide) dX7_copy_81 rfl rfl (Nat.le_of_ble_eq_true rfl) (fun z81 h81 => ?_)
                refine R_if_eq hB 99 (by omega) dX7_copy_84 rfl (fun h84 => ?_) (fun h84 => ?_)
                · refine R_aload_n hB (j := 2) dX7_copy_99 rfl rfl ?_
                  refine R_iconst hB dX7_copy_100 ?_
                  refine R_cV1 hB (s_found _ (by omega)) mv_X7_237 rfl rfl (by decide) dX7_copy_101 rfl rfl (Nat.le_of_ble_eq_true rfl) (fun z101 σ1 h101 => ?_)
                  exact R_iret hB hE rfl dX7_copy_104 (Or.inr (Or.inr (Or.inr (Or.inl ⟨⟨hy, hz⟩, (by show σ 19 1 = 0 ∧ σ 18 1 = 0; omega), (by show σ 19 2 = σ 18 2; omega), (by show ¬ (hldP (σ 19) i n ∧ hldP (σ 18) j n); unfold hldP at *; omega), h101.1, h101.2, by rw [h101.2]; exact h.fnd (by omega)⟩))))
                · refine R_aload hB (j := 0) dX7_copy_87 rfl ?_
                  refine R_iload hB (j := 6) dX7_copy_89 rfl ?_
                  refine R_iload hB (j := 7) dX7_copy_91 rfl ?_
                  refine P_cS1 hB (s_holds_0 j n hj hn hqb.2.2) ms_X7_311 (by decide) dX7_copy_93 rfl rfl (Nat.le_of_ble_eq_true rfl) (fun z93 h93 => ?_)
                  refine R_if_ne hB 105 (by omega) dX7_copy_96 rfl (fun h96 => ?_) (fun h96 => ?_)
                  · refine R_aload hB (j := 1) dX7_copy_105 rfl ?_
                    refine R_getr hB (50) fl_X7_241 dX7_copy_107 rfl rfl ?_
                    refine R_iload_n hB (j := 4) dX7_copy_110 rfl rfl ?_
                    refine R_aload hB (j := 0) dX7_copy_111 rfl ?_
                    refine R_getr hB (49) fl_X7_241 dX7_copy_113 rfl rfl ?_
                    refine R_iload hB (j := 6) dX7_copy_116 rfl ?_
                    refine R_iload hB (j := 7) dX7_copy_118 rfl ?_
                    refine N_acopy hB rfl rfl (by decide) (by unfold hldP at *; omega) (by unfold hldP at *; omega) (by unfold hldP at *; omega) ac_link ac_native ac_static ac_init (by decide) dX7_copy_120 (Nat.le_of_ble_eq_true rfl) (fun σ1 e1 => ?_)
                    refine R_iconst hB dX7_copy_123 ?_
                    exact R_iret hB hE rfl dX7_copy_124 (Or.inr (Or.inr (Or.inr (Or.inr ⟨⟨hy, hz⟩, (by show σ 19 1 = 0 ∧ σ 18 1 = 0; omega), (by show σ 19 2 = σ 18 2; omega), (by show hldP (σ 19) i n ∧ hldP (σ 18) j n; unfold hldP at *; omega), rfl, e1, h.sh (fun x hi => by
                        simp only [List.mem_cons, List.not_mem_nil, or_false, not_or] at hi
                        rw [e1, cpM_row (by omega)]) (by rw [e1, cpM_row (by decide)]) (by rw [e1, cpM_row (by decide)]; exact h.2.2.2.2.2.2) (fun x hx => by rw [e1, cpM_row (by omega)]; exact h.2.2.2.2.2.1 x hx)⟩))))
                  · refine R_aload_n hB (j := 2) dX7_copy_99 rfl rfl ?_
                    refine R_iconst hB dX7_copy_100 ?_
                    refine R_cV1 hB (s_found _ (by omega)) mv_X7_237 rfl rfl (by decide) dX7_copy_101 rfl rfl (Nat.le_of_ble_eq_true rfl) (fun z101 σ1 h101 => ?_)
                    exact R_iret hB hE rfl dX7_copy_104 (Or.inr (Or.inr (Or.inr (Or.inl ⟨⟨hy, hz⟩, (by show σ 19 1 = 0 ∧ σ 18 1 = 0; omega), (by show σ 19 2 = σ 18 2; omega), (by show ¬ (hldP (σ 19) i n ∧ hldP (σ 18) j n); unfold hldP at *; omega), h101.1, h101.2, by rw [h101.2]; exact h.fnd (by omega)⟩))))
              · refine R_aload_n hB (j := 2) dX7_copy_70 rfl rfl ?_
                refine R_iconst hB dX7_copy_71 ?_
                refine R_cV1 hB (s_found _ (by omega)) mv_X7_237 rfl rfl (by decide) dX7_copy_72 rfl rfl (Nat.le_of_ble_eq_true rfl) (fun z72 σ1 h72 => ?_)
                exact R_iret hB hE rfl dX7_copy_75 (Or.inr (Or.inr (Or.inl ⟨⟨hy, hz⟩, (by show σ 19 1 = 0 ∧ σ 18 1 = 0; omega), (by show σ 19 2 ≠ σ 18 2; omega), h72.1, h72.2, by rw [h72.2]; exact h.fnd (by omega)⟩)))
            · refine R_aload_n hB (j := 2) dX7_copy_51 rfl rfl ?_
              refine R_iconst hB dX7_copy_52 ?_
              refine R_cV1 hB (s_found _ (by omega)) mv_X7_237 rfl rfl (by decide) dX7_copy_53 rfl rfl (Nat.le_of_ble_eq_true rfl) (fun z53 σ1 h53 => ?_)
              exact R_iret hB hE rfl dX7_copy_56 (Or.inr (Or.inl ⟨⟨hy, hz⟩, (by show σ 19 1 = 1 ∨ σ 18 1 = 1; omega), h53.1, h53.2, by rw [h53.2]; exact h.fnd (by omega)⟩))
        · show Run Θ Γ 20 [(0, .ref (Th.r Θ 0)), (1, .int (I 1)), (2, .int (I i)), (3, .int (I 1)), (4, .int (I j)), (5, .int (I n))] [.ref (Th.r Θ 0)] σ
          refine R_getr hB (24) fl_X7_41 dX7_copy_20 rfl rfl ?_
          refine R_iload_n hB (j := 1) dX7_copy_23 rfl rfl ?_
          refine R_aald hB (19) rfl (by decide) (by omega) rfl dX7_copy_24 ?_
          refine R_astore hB (L' := [_, _, _, _, _, _, _]) dX7_copy_25 (Nat.le_of_ble_eq_true rfl) rfl ?_
          refine R_aload_n hB (j := 1) dX7_copy_27 rfl rfl ?_
          refine R_getr hB (24) fl_X7_41 dX7_copy_28 rfl rfl ?_
          refine R_iload_n hB (j := 4) dX7_copy_31 rfl rfl ?_
          refine R_aald hB (19) rfl (by decide) (by omega) rfl dX7_copy_32 ?_
          refine R_astore hB (L' := [_, _, _, _, _, _, _, _]) dX7_copy_33 (Nat.le_of_ble_eq_true rfl) rfl ?_
          have hqa : (σ 19 1 = 0 ∨ σ 19 1 = 1) ∧ (0 ≤ σ 19 2 ∧ σ 19 2 < 3) ∧ (0 ≤ σ 19 3 ∧ σ 19 3 ≤ 60) := h.2.2.2.2.2.1 1 (by decide)
          have hqb : (σ 19 1 = 0 ∨ σ 19 1 = 1) ∧ (0 ≤ σ 19 2 ∧ σ 19 2 < 3) ∧ (0 ≤ σ 19 3 ∧ σ 19 3 ≤ 60) := h.2.2.2.2.2.1 1 (by decide)
          refine R_aload hB (j := 1) dX7_copy_35 rfl ?_
          refine R_getz hB fl_X7_233 dX7_copy_37 rfl ?_
          refine R_if_ne hB 51 (by omega) dX7_copy_40 rfl (fun h40 => ?_) (fun h40 => ?_)
          · refine R_aload_n hB (j := 2) dX7_copy_51 rfl rfl ?_
            refine R_iconst hB dX7_copy_52 ?_
            refine R_cV1 hB (s_found _ (by omega)) mv_X7_237 rfl rfl (by decide) dX7_copy_53 rfl rfl (Nat.le_of_ble_eq_true rfl) (fun z53 σ1 h53 => ?_)
            exact R_iret hB hE rfl dX7_copy_56 (Or.inr (Or.inl ⟨⟨hy, hz⟩, (by show σ 19 1 = 1 ∨ σ 19 1 = 1; omega), h53.1, h53.2, by rw [h53.2]; exact h.fnd (by omega)⟩))
          · refine R_aload hB (j := 0) dX7_copy_43 rfl ?_
            refine R_getz hB fl_X7_233 dX7_copy_45 rfl ?_
            refine R_if_eq hB 57 (by omega) dX7_copy_48 rfl (fun h48 => ?_) (fun h48 => ?_)
            · refine R_aload hB (j := 1) dX7_copy_57 rfl ?_
              refine R_geti hB fl_X7_300 dX7_copy_59 rfl ?_
              refine R_aload hB (j := 0) dX7_copy_62 rfl ?_
              refine R_geti hB fl_X7_300 dX7_copy_64 rfl ?_
              refine R_icmp_eq hB 76 (by omega) (by omega) dX7_copy_67 rfl (fun h67 => ?_) (fun h67 => ?_)
              · refine R_aload hB (j := 1) dX7_copy_76 rfl ?_
                refine R_iload_n hB (j := 4) dX7_copy_78 rfl rfl ?_
                refine R_iload hB (j := 7) dX7_copy_79 rfl ?_
                refine P_cS1 hB (s_holds_1 i n hi hn hqa.2.2) ms_X7_311 (by decide) dX7_copy_81 rfl rfl (Nat.le_of_ble_eq_true rfl) (fun z81 h81 => ?_)
                refine R_if_eq hB 99 (by omega) dX7_copy_84 rfl (fun h84 => ?_) (fun h84 => ?_)
                · refine R_aload_n hB (j := 2) dX7_copy_99 rfl rfl ?_
                  refine R_iconst hB dX7_copy_100 ?_
                  refine R_cV1 hB (s_found _ (by omega)) mv_X7_237 rfl rfl (by decide) dX7_copy_101 rfl rfl (Nat.le_of_ble_eq_true rfl) (fun z101 σ1 h101 => ?_)
                  exact R_iret hB hE rfl dX7_copy_104 (Or.inr (Or.inr (Or.inr (Or.inl ⟨⟨hy, hz⟩, (by show σ 19 1 = 0 ∧ σ 19 1 = 0; omega), (by show σ 19 2 = σ 19 2; omega), (by show ¬ (hldP (σ 19) i n ∧ hldP (σ 19) j n); unfold hldP at *; omega), h101.1, h101.2, by rw [h101.2]; exact h.fnd (by omega)⟩))))
                · refine R_aload hB (j := 0) dX7_copy_87 rfl ?_
                  refine R_iload hB (j := 6) dX7_copy_89 rfl ?_
                  refine R_iload hB (j := 7) dX7_copy_91 rfl ?_
                  refine P_cS1 hB (s_holds_1 j n hj hn hqb.2.2) ms_X7_311 (by decide) dX7_copy_93 rfl rfl (Nat.le_of_ble_eq_true rfl) (fun z93 h93 => ?_)
                  refine R_if_ne hB 105 (by omega) dX7_copy_96 rfl (fun h96 => ?_) (fun h96 => ?_)
                  · refine R_aload hB (j := 1) dX7_copy_105 rfl ?_
                    refine R_getr hB (50) fl_X7_241 dX7_copy_107 rfl rfl ?_
                    refine R_iload_n hB (j := 4) dX7_copy_110 rfl rfl ?_
                    refine R_aload hB (j := 0) dX7_copy_111 rfl ?_
                    refine R_getr hB (50) fl_X7_241 dX7_copy_113 rfl rfl ?_
                    refine R_iload hB (j := 6) dX7_copy_116 rfl ?_
                    refine R_iload hB (j := 7) dX7_copy_118 rfl ?_
                    refine N_acopy hB rfl rfl (by decide) (by unfold hldP at *; omega) (by unfold hldP at *; omega) (by unfold hldP at *; omega) ac_link ac_native ac_static ac_init (by decide) dX7_copy_120 (Nat.le_of_ble_eq_true rfl) (fun σ1 e1 => ?_)
                    refine R_iconst hB dX7_copy_123 ?_
                    exact R_iret hB hE rfl dX7_copy_124 (Or.inr (Or.inr (Or.inr (Or.inr ⟨⟨hy, hz⟩, (by show σ 19 1 = 0 ∧ σ 19 1 = 0; omega), (by show σ 19 2 = σ 19 2; omega), (by show hldP (σ 19) i n ∧ hldP (σ 19) j n; unfold hldP at *; omega), rfl, e1, h.sh (fun x hi => by
                        simp only [List.mem_cons, List.not_mem_nil, or_false, not_or] at hi
                        rw [e1, cpM_row (by omega)]) (by rw [e1, cpM_row (by decide)]) (by rw [e1, cpM_row (by decide)]; exact h.2.2.2.2.2.2) (fun x hx => by rw [e1, cpM_row (by omega)]; exact h.2.2.2.2.2.1 x hx)⟩))))
                  · refine R_aload_n hB (j := 2) dX7_copy_99 rfl rfl ?_
                    refine R_iconst hB dX7_copy_100 ?_
                    refine R_cV1 hB (s_found _ (by omega)) mv_X7_237 rfl rfl (by decide) dX7_copy_101 rfl rfl (Nat.le_of_ble_eq_true rfl) (fun z101 σ1 h101 => ?_)
                    exact R_iret hB hE rfl dX7_copy_104 (Or.inr (Or.inr (Or.inr (Or.inl ⟨⟨hy, hz⟩, (by show σ 19 1 = 0 ∧ σ 19 1 = 0; omega), (by show σ 19 2 = σ 19 2; omega), (by show ¬ (hldP (σ 19) i n ∧ hldP (σ 19) j n); unfold hldP at *; omega), h101.1, h101.2, by rw [h101.2]; exact h.fnd (by omega)⟩))))
              · refine R_aload_n hB (j := 2) dX7_copy_70 rfl rfl ?_
                refine R_iconst hB dX7_copy_71 ?_
                refine R_cV1 hB (s_found _ (by omega)) mv_X7_237 rfl rfl (by decide) dX7_copy_72 rfl rfl (Nat.le_of_ble_eq_true rfl) (fun z72 σ1 h72 => ?_)
                exact R_iret hB hE rfl dX7_copy_75 (Or.inr (Or.inr (Or.inl ⟨⟨hy, hz⟩, (by show σ 19 1 = 0 ∧ σ 19 1 = 0; omega), (by show σ 19 2 ≠ σ 19 2; omega), h72.1, h72.2, by rw [h72.2]; exact h.fnd (by omega)⟩)))
            · refine R_aload_n hB (j := 2) dX7_copy_51 rfl rfl ?_
              refine R_iconst hB dX7_copy_52 ?_
              refine R_cV1 hB (s_found _ (by omega)) mv_X7_237 rfl rfl (by decide) dX7_copy_53 rfl rfl (Nat.le_of_ble_eq_true rfl) (fun z53 σ1 h53 => ?_)
              exact R_iret hB hE rfl dX7_copy_56 (Or.inr (Or.inl ⟨⟨hy, hz⟩, (by show σ 19 1 = 1 ∨ σ 19 1 = 1; omega), h53.1, h53.2, by rw [h53.2]; exact h.fnd (by omega)⟩))
        · show Run Θ Γ 20 [(0, .ref (Th.r Θ 0)), (1, .int (I 1)), (2, .int (I i)), (3, .int (I 2)), (4, .int (I j)), (5, .int (I n))] [.ref (Th.r Θ 0)] σ
          refine R_getr hB (24) fl_X7_41 dX7_copy_20 rfl rfl ?_
          refine R_iload_n hB (j := 1) dX7_copy_23 rfl rfl ?_
          refine R_aald hB (19) rfl (by decide) (by omega) rfl dX7_copy_24 ?_
          refine R_astore hB (L' := [_, _, _, _, _, _, _]) dX7_copy_25 (Nat.le_of_ble_eq_true rfl) rfl ?_
          refine R_aload_n hB (j := 1) dX7_copy_27 rfl rfl ?_
          refine R_getr hB (24) fl_X7_41 dX7_copy_28 rfl rfl ?_
          refine R_iload_n hB (j := 4) dX7_copy_31 rfl rfl ?_
          refine R_aald hB (20) rfl (by decide) (by omega) rfl dX7_copy_32 ?_
          refine R_astore hB (L' := [_, _, _, _, _, _, _, _]) dX7_copy_33 (Nat.le_of_ble_eq_true rfl) rfl ?_
          have hqa : (σ 19 1 = 0 ∨ σ 19 1 = 1) ∧ (0 ≤ σ 19 2 ∧ σ 19 2 < 3) ∧ (0 ≤ σ 19 3 ∧ σ 19 3 ≤ 60) := h.2.2.2.2.2.1 1 (by decide)
          have hqb : (σ 20 1 = 0 ∨ σ 20 1 = 1) ∧ (0 ≤ σ 20 2 ∧ σ 20 2 < 3) ∧ (0 ≤ σ 20 3 ∧ σ 20 3 ≤ 60) := h.2.2.2.2.2.1 2 (by decide)
          refine R_aload hB (j := 1) dX7_copy_35 rfl ?_
          refine R_getz hB fl_X7_233 dX7_copy_37 rfl ?_
          refine R_if_ne hB 51 (by omega) dX7_copy_40 rfl (fun h40 => ?_) (fun h40 => ?_)
          · refine R_aload_n hB (j := 2) dX7_copy_51 rfl rfl ?_
            refine R_iconst hB dX7_copy_52 ?_
            refine R_cV1 hB (s_found _ (by omega)) mv_X7_237 rfl rfl (by decide) dX7_copy_53 rfl rfl (Nat.le_of_ble_eq_true rfl) (fun z53 σ1 h53 => ?_)
            exact R_iret hB hE rfl dX7_copy_56 (Or.inr (Or.inl ⟨⟨hy, hz⟩, (by show σ 19 1 = 1 ∨ σ 20 1 = 1; omega), h53.1, h53.2, by rw [h53.2]; exact h.fnd (by omega)⟩))
          · refine R_aload hB (j := 0) dX7_copy_43 rfl ?_
            refine R_getz hB fl_X7_233 dX7_copy_45 rfl ?_
            refine R_if_eq hB 57 (by omega) dX7_copy_48 rfl (fun h48 => ?_) (fun h48 => ?_)
            · refine R_aload hB (j := 1) dX7_copy_57 rfl ?_
              refine R_geti hB fl_X7_300 dX7_copy_59 rfl ?_
              refine R_aload hB (j := 0) dX7_copy_62 rfl ?_
              refine R_geti hB fl_X7_300 dX7_copy_64 rfl ?_
              refine R_icmp_eq hB 76 (by omega) (by omega) dX7_copy_67 rfl (fun h67 => ?_) (fun h67 => ?_)
              · refine R_aload hB (j := 1) dX7_copy_76 rfl ?_
                refine R_iload_n hB (j := 4) dX7_copy_78 rfl rfl ?_
                refine R_iload hB (j := 7) dX7_copy_79 rfl ?_
                refine P_cS1 hB (s_holds_1 i n hi hn hqa.2.2) ms_X7_311 (by decide) dX7_copy_81 rfl rfl (Nat.le_of_ble_eq_true rfl) (fun z81 h81 => ?_)
                refine R_if_eq hB 99 (by omega) dX7_copy_84 rfl (fun h84 => ?_) (fun h84 => ?_)
                · refine R_aload_n hB (j := 2) dX7_copy_99 rfl rfl ?_
                  refine R_iconst hB dX7_copy_100 ?_
                  refine R_cV1 hB (s_found _ (by omega)) mv_X7_237 rfl rfl (by decide) dX7_copy_101 rfl rfl (Nat.le_of_ble_eq_true rfl) (fun z101 σ1 h101 => ?_)
                  exact R_iret hB hE rfl dX7_copy_104 (Or.inr (Or.inr (Or.inr (Or.inl ⟨⟨hy, hz⟩, (by show σ 19 1 = 0 ∧ σ 20 1 = 0; omega), (by show σ 19 2 = σ 20 2; omega), (by show ¬ (hldP (σ 19) i n ∧ hldP (σ 20) j n); unfold hldP at *; omega), h101.1, h101.2, by rw [h101.2]; exact h.fnd (by omega)⟩))))
                · refine R_aload hB (j := 0) dX7_copy_87 rfl ?_
                  refine R_iload hB (j := 6) dX7_copy_89 rfl ?_
                  refine R_iload hB (j := 7) dX7_copy_91 rfl ?_
                  refine P_cS1 hB (s_holds_2 j n hj hn hqb.2.2) ms_X7_311 (by decide) dX7_copy_93 rfl rfl (Nat.le_of_ble_eq_true rfl) (fun z93 h93 => ?_)
                  refine R_if_ne hB 105 (by omega) dX7_copy_96 rfl (fun h96 => ?_) (fun h96 => ?_)
                  · refine R_aload hB (j := 1) dX7_copy_105 rfl ?_
                    refine R_getr hB (50) fl_X7_241 dX7_copy_107 rfl rfl ?_
                    refine R_iload_n hB (j := 4) dX7_copy_110 rfl rfl ?_
                    refine R_aload hB (j := 0) dX7_copy_111 rfl ?_
                    refine R_getr hB (51) fl_X7_241 dX7_copy_113 rfl rfl ?_
                    refine R_iload hB (j := 6) dX7_copy_116 rfl ?_
                    refine R_iload hB (j := 7) dX7_copy_118 rfl ?_
                    refine N_acopy hB rfl rfl (by decide) (by unfold hldP at *; omega) (by unfold hldP at *; omega) (by unfold hldP at *; omega) ac_link ac_native ac_static ac_init (by decide) dX7_copy_120 (Nat.le_of_ble_eq_true rfl) (fun σ1 e1 => ?_)
                    refine R_iconst hB dX7_copy_123 ?_
                    exact R_iret hB hE rfl dX7_copy_124 (Or.inr (Or.inr (Or.inr (Or.inr ⟨⟨hy, hz⟩, (by show σ 19 1 = 0 ∧ σ 20 1 = 0; omega), (by show σ 19 2 = σ 20 2; omega), (by show hldP (σ 19) i n ∧ hldP (σ 20) j n; unfold hldP at *; omega), rfl, e1, h.sh (fun x hi => by
                        simp only [List.mem_cons, List.not_mem_nil, or_false, not_or] at hi
                        rw [e1, cpM_row (by omega)]) (by rw [e1, cpM_row (by decide)]) (by rw [e1, cpM_row (by decide)]; exact h.2.2.2.2.2.2) (fun x hx => by rw [e1, cpM_row (by omega)]; exact h.2.2.2.2.2.1 x hx)⟩))))
                  · refine R_aload_n hB (j := 2) dX7_copy_99 rfl rfl ?_
                    refine R_iconst hB dX7_copy_100 ?_
                    refine R_cV1 hB (s_found _ (by omega)) mv_X7_237 rfl rfl (by decide) dX7_copy_101 rfl rfl (Nat.le_of_ble_eq_true rfl) (fun z101 σ1 h101 => ?_)
                    exact R_iret hB hE rfl dX7_copy_104 (Or.inr (Or.inr (Or.inr (Or.inl ⟨⟨hy, hz⟩, (by show σ 19 1 = 0 ∧ σ 20 1 = 0; omega), (by show σ 19 2 = σ 20 2; omega), (by show ¬ (hldP (σ 19) i n ∧ hldP (σ 20) j n); unfold hldP at *; omega), h101.1, h101.2, by rw [h101.2]; exact h.fnd (by omega)⟩))))
              · refine R_aload_n hB (j := 2) dX7_copy_70 rfl rfl ?_
                refine R_iconst hB dX7_copy_71 ?_
                refine R_cV1 hB (s_found _ (by omega)) mv_X7_237 rfl rfl (by decide) dX7_copy_72 rfl rfl (Nat.le_of_ble_eq_true rfl) (fun z72 σ1 h72 => ?_)
                exact R_iret hB hE rfl dX7_copy_75 (Or.inr (Or.inr (Or.inl ⟨⟨hy, hz⟩, (by show σ 19 1 = 0 ∧ σ 20 1 = 0; omega), (by show σ 19 2 ≠ σ 20 2; omega), h72.1, h72.2, by rw [h72.2]; exact h.fnd (by omega)⟩)))
            · refine R_aload_n hB (j := 2) dX7_copy_51 rfl rfl ?_
              refine R_iconst hB dX7_copy_52 ?_
              refine R_cV1 hB (s_found _ (by omega)) mv_X7_237 rfl rfl (by decide) dX7_copy_53 rfl rfl (Nat.le_of_ble_eq_true rfl) (fun z53 σ1 h53 => ?_)
              exact R_iret hB hE rfl dX7_copy_56 (Or.inr (Or.inl ⟨⟨hy, hz⟩, (by show σ 19 1 = 1 ∨ σ 20 1 = 1; omega), h53.1, h53.2, by rw [h53.2]; exact h.fnd (by omega)⟩))
        · show Run Θ Γ 20 [(0, .ref (Th.r Θ 0)), (1, .int (I 1)), (2, .int (I i)), (3, .int (I 3)), (4, .int (I j)), (5, .int (I n))] [.ref (Th.r Θ 0)] σ
          refine R_getr hB (24) fl_X7_41 dX7_copy_20 rfl rfl ?_
          refine R_iload_n hB (j := 1) dX7_copy_23 rfl rfl ?_
          refine R_aald hB (19) rfl (by decide) (by omega) rfl dX7_copy_24 ?_
          refine R_astore hB (L' := [_, _, _, _, _, _, _]) dX7_copy_25 (Nat.le_of_ble_eq_true rfl) rfl ?_
          refine R_aload_n hB (j := 1) dX7_copy_27 rfl rfl ?_
          refine R_getr hB (24) fl_X7_41 dX7_copy_28 rfl rfl ?_
          refine R_iload_n hB (j := 4) dX7_copy_31 rfl rfl ?_
          refine R_aald hB (21) rfl (by decide) (by omega) rfl dX7_copy_32 ?_
          refine R_astore hB (L' := [_, _, _, _, _, _, _, _]) dX7_copy_33 (Nat.le_of_ble_eq_true rfl) rfl ?_
          have hqa : (σ 19 1 = 0 ∨ σ 19 1 = 1) ∧ (0 ≤ σ 19 2 ∧ σ 19 2 < 3) ∧ (0 ≤ σ 19 3 ∧ σ 19 3 ≤ 60) := h.2.2.2.2.2.1 1 (by decide)
          have hqb : (σ 21 1 = 0 ∨ σ 21 1 = 1) ∧ (0 ≤ σ 21 2 ∧ σ 21 2 < 3) ∧ (0 ≤ σ 21 3 ∧ σ 21 3 ≤ 60) := h.2.2.2.2.2.1 3 (by decide)
          refine R_aload hB (j := 1) dX7_copy_35 rfl ?_
          refine R_getz hB fl_X7_233 dX7_copy_37 rfl ?_
          refine R_if_ne hB 51 (by omega) dX7_copy_40 rfl (fun h40 => ?_) (fun h40 => ?_)
          · refine R_aload_n hB (j := 2) dX7_copy_51 rfl rfl ?_
            refine R_iconst hB dX7_copy_52 ?_
            refine R_cV1 hB (s_found _ (by omega)) mv_X7_237 rfl rfl (by decide) dX7_copy_53 rfl rfl (Nat.le_of_ble_eq_true rfl) (fun z53 σ1 h53 => ?_)
            exact R_iret hB hE rfl dX7_copy_56 (Or.inr (Or.inl ⟨⟨hy, hz⟩, (by show σ 19 1 = 1 ∨ σ 21 1 = 1; omega), h53.1, h53.2, by rw [h53.2]; exact h.fnd (by omega)⟩))
          · refine R_aload hB (j := 0) dX7_copy_43 rfl ?_
            refine R_getz hB fl_X7_233 dX7_copy_45 rfl ?_
            refine R_if_eq hB 57 (by omega) dX7_copy_48 rfl (fun h48 => ?_) (fun h48 => ?_)
            · refine R_aload hB (j := 1) dX7_copy_57 rfl ?_
              refine R_geti hB fl_X7_300 dX7_copy_59 rfl ?_
              refine R_aload hB (j := 0) dX7_copy_62 rfl ?_
              refine R_geti hB fl_X7_300 dX7_copy_64 rfl ?_
              refine R_icmp_eq hB 76 (by omega) (by omega) dX7_copy_67 rfl (fun h67 => ?_) (fun h67 => ?_)
              · refine R_aload hB (j := 1) dX7_copy_76 rfl ?_
                refine R_iload_n hB (j := 4) dX7_copy_78 rfl rfl ?_
                refine R_iload hB (j := 7) dX7_copy_79 rfl ?_
                refine P_cS1 hB (s_holds_1 i n hi hn hqa.2.2) ms_X7_311 (by decide) dX7_copy_81 rfl rfl (Nat.le_of_ble_eq_true rfl) (fun z81 h81 => ?_)
                refine R_if_eq hB 99 (by omega) dX7_copy_84 rfl (fun h84 => ?_) (fun h84 => ?_)
                · refine R_aload_n hB (j := 2) dX7_copy_99 rfl rfl ?_
                  refine R_iconst hB dX7_copy_100 ?_
                  refine R_cV1 hB (s_found _ (by omega)) mv_X7_237 rfl rfl (by decide) dX7_copy_101 rfl rfl (Nat.le_of_ble_eq_true rfl) (fun z101 σ1 h101 => ?_)
                  exact R_iret hB hE rfl dX7_copy_104 (Or.inr (Or.inr (Or.inr (Or.inl ⟨⟨hy, hz⟩, (by show σ 19 1 = 0 ∧ σ 21 1 = 0; omega), (by show σ 19 2 = σ 21 2; omega), (by show ¬ (hldP (σ 19) i n ∧ hldP (σ 21) j n); unfold hldP at *; omega), h101.1, h101.2, by rw [h101.2]; exact h.fnd (by omega)⟩))))
                · refine R_aload hB (j := 0) dX7_copy_87 rfl ?_
                  refine R_iload hB (j := 6) dX7_copy_89 rfl ?_
                  refine R_iload hB (j := 7) dX7_copy_91 rfl ?_
                  refine P_cS1 hB (s_holds_3 j n hj hn hqb.2.2) ms_X7_311 (by decide) dX7_copy_93 rfl rfl (Nat.le_of_ble_eq_true rfl) (fun z93 h93 => ?_)
                  refine R_if_ne hB 105 (by omega) dX7_copy_96 rfl (fun h96 => ?_) (fun h96 => ?_)
                  · refine R_aload hB (j := 1) dX7_copy_105 rfl ?_
                    refine R_getr hB (50) fl_X7_241 dX7_copy_107 rfl rfl ?_
                    refine R_iload_n hB (j := 4) dX7_copy_110 rfl rfl ?_
                    refine R_aload hB (j := 0) dX7_copy_111 rfl ?_
                    refine R_getr hB (52) fl_X7_241 dX7_copy_113 rfl rfl ?_
                    refine R_iload hB (j := 6) dX7_copy_116 rfl ?_
                    refine R_iload hB (j := 7) dX7_copy_118 rfl ?_
                    refine N_acopy hB rfl rfl (by decide) (by unfold hldP at *; omega) (by unfold hldP at *; omega) (by unfold hldP at *; omega) ac_link ac_native ac_static ac_init (by decide) dX7_copy_120 (Nat.le_of_ble_eq_true rfl) (fun σ1 e1 => ?_)
                    refine R_iconst hB dX7_copy_123 ?_
                    exact R_iret hB hE rfl dX7_copy_124 (Or.inr (Or.inr (Or.inr (Or.inr ⟨⟨hy, hz⟩, (by show σ 19 1 = 0 ∧ σ 21 1 = 0; omega), (by show σ 19 2 = σ 21 2; omega), (by show hldP (σ 19) i n ∧ hldP (σ 21) j n; unfold hldP at *; omega), rfl, e1, h.sh (fun x hi => by
                        simp only [List.mem_cons, List.not_mem_nil, or_false, not_or] at hi
                        rw [e1, cpM_row (by omega)]) (by rw [e1, cpM_row (by decide)]) (by rw [e1, cpM_row (by decide)]; exact h.2.2.2.2.2.2) (fun x hx => by rw [e1, cpM_row (by omega)]; exact h.2.2.2.2.2.1 x hx)⟩))))
                  · refine R_aload_n hB (j := 2) dX7_copy_99 rfl rfl ?_
                    refine R_iconst hB dX7_copy_100 ?_
                    refine R_cV1 hB (s_found _ (by omega)) mv_X7_237 rfl rfl (by decide) dX7_copy_101 rfl rfl (Nat.le_of_ble_eq_true rfl) (fun z101 σ1 h101 => ?_)
                    exact R_iret hB hE rfl dX7_copy_104 (Or.inr (Or.inr (Or.inr (Or.inl ⟨⟨hy, hz⟩, (by show σ 19 1 = 0 ∧ σ 21 1 = 0; omega), (by show σ 19 2 = σ 21 2; omega), (by show ¬ (hldP (σ 19) i n ∧ hldP (σ 21) j n); unfold hldP at *; omega), h101.1, h101.2, by rw [h101.2]; exact h.fnd (by omega)⟩))))
              · refine R_aload_n hB (j := 2) dX7_copy_70 rfl rfl ?_
                refine R_iconst hB dX7_copy_71 ?_
                refine R_cV1 hB (s_found _ (by omega)) mv_X7_237 rfl rfl (by decide) dX7_copy_72 rfl rfl (Nat.le_of_ble_eq_true rfl) (fun z72 σ1 h72 => ?_)
                exact R_iret hB hE rfl dX7_copy_75 (Or.inr (Or.inr (Or.inl ⟨⟨hy, hz⟩, (by show σ 19 1 = 0 ∧ σ 21 1 = 0; omega), (by show σ 19 2 ≠ σ 21 2; omega), h72.1, h72.2, by rw [h72.2]; exact h.fnd (by omega)⟩)))
            · refine R_aload_n hB (j := 2) dX7_copy_51 rfl rfl ?_
              refine R_iconst hB dX7_copy_52 ?_
              refine R_cV1 hB (s_found _ (by omega)) mv_X7_237 rfl rfl (by decide) dX7_copy_53 rfl rfl (Nat.le_of_ble_eq_true rfl) (fun z53 σ1 h53 => ?_)
              exact R_iret hB hE rfl dX7_copy_56 (Or.inr (Or.inl ⟨⟨hy, hz⟩, (by show σ 19 1 = 1 ∨ σ 21 1 = 1; omega), h53.1, h53.2, by rw [h53.2]; exact h.fnd (by omega)⟩))
      · show Run Θ Γ 19 [(0, .ref (Th.r Θ 0)), (1, .int (I 2)), (2, .int (I i)), (3, .int (I t)), (4, .int (I j)), (5, .int (I n))] [] σ
        refine R_aload_n hB (j := 0) dX7_copy_19 rfl rfl ?_
        rcases (show t = 0 ∨ t = 1 ∨ t = 2 ∨ t = 3 by omega) with rfl | rfl | rfl | rfl
        · show Run Θ Γ 20 [(0, .ref (Th.r Θ 0)), (1, .int (I 2)), (2, .int (I i)), (3, .int (I 0)), (4, .int (I j)), (5, .int (I n))] [.ref (Th.r Θ 0)] σ
          refine R_getr hB (24) fl_X7_41 dX7_copy_20 rfl rfl ?_
          refine R_iload_n hB (j := 1) dX7_copy_23 rfl rfl ?_
          refine R_aald hB (20) rfl (by decide) (by omega) rfl dX7_copy_24 ?_
          refine R_astore hB (L' := [_, _, _, _, _, _, _]) dX7_copy_25 (Nat.le_of_ble_eq_true rfl) rfl ?_
          refine R_aload_n hB (j := 1) dX7_copy_27 rfl rfl ?_
          refine R_getr hB (24) fl_X7_41 dX7_copy_28 rfl rfl ?_
          refine R_iload_n hB (j := 4) dX7_copy_31 rfl rfl ?_
          refine R_aald hB (18) rfl (by decide) (by omega) rfl dX7_copy_32 ?_
          refine R_astore hB (L' := [_, _, _, _, _, _, _, _]) dX7_copy_33 (Nat.le_of_ble_eq_true rfl) rfl ?_
          have hqa : (σ 20 1 = 0 ∨ σ 20 1 = 1) ∧ (0 ≤ σ 20 2 ∧ σ 20 2 < 3) ∧ (0 ≤ σ 20 3 ∧ σ 20 3 ≤ 60) := h.2.2.2.2.2.1 2 (by decide)
          have hqb : (σ 18 1 = 0 ∨ σ 18 1 = 1) ∧ (0 ≤ σ 18 2 ∧ σ 18 2 < 3) ∧ (0 ≤ σ 18 3 ∧ σ 18 3 ≤ 60) := h.2.2.2.2.2.1 0 (by decide)
          refine R_aload hB (j := 1) dX7_copy_35 rfl ?_
          refine R_getz hB fl_X7_233 dX7_copy_37 rfl ?_
          refine R_if_ne hB 51 (by omega) dX7_copy_40 rfl (fun h40 => ?_) (fun h40 => ?_)
          · refine R_aload_n hB (j := 2) dX7_copy_51 rfl rfl ?_
            refine R_iconst hB dX7_copy_52 ?_
            refine R_cV1 hB (s_found _ (by omega)) mv_X7_237 rfl rfl (by decide) dX7_copy_53 rfl rfl (Nat.le_of_ble_eq_true rfl) (fun z53 σ1 h53 => ?_)
            exact R_iret hB hE rfl dX7_copy_56 (Or.inr (Or.inl ⟨⟨hy, hz⟩, (by show σ 20 1 = 1 ∨ σ 18 1 = 1; omega), h53.1, h53.2, by rw [h53.2]; exact h.fnd (by omega)⟩))
          · refine R_aload hB (j := 0) dX7_copy_43 rfl ?_
            refine R_getz hB fl_X7_233 dX7_copy_45 rfl ?_
            refine R_if_eq hB 57 (by omega) dX7_copy_48 rfl (fun h48 => ?_) (fun h48 => ?_)
            · refine R_aload hB (j := 1) dX7_copy_57 rfl ?_
              refine R_geti hB fl_X7_300 dX7_copy_59 rfl ?_
              refine R_aload hB (j := 0) dX7_copy_62 rfl ?_
              refine R_geti hB fl_X7_300 dX7_copy_64 rfl ?_
              refine R_icmp_eq hB 76 (by omega) (by omega) dX7_copy_67 rfl (fun h67 => ?_) (fun h67 => ?_)
              · refine R_aload hB (j := 1) dX7_copy_76 rfl ?_
                refine R_iload_n hB (j := 4) dX7_copy_78 rfl rfl ?_
                refine R_iload hB (j := 7) dX7_copy_79 rfl ?_
                refine P_cS1 hB (s_holds_2 i n hi hn hqa.2.2) ms_X7_311 (by decide) dX7_copy_81 rfl rfl (Nat.le_of_ble_eq_true rfl) (fun z81 h81 => ?_)
                refine R_if_eq hB 99 (by omega) dX7_copy_84 rfl (fun h84 => ?_) (fun h84 => ?_)
                · refine R_aload_n hB (j := 2) dX7_copy_99 rfl rfl ?_
                  refine R_iconst hB dX7_copy_100 ?_
                  refine R_cV1 hB (s_found _ (by omega)) mv_X7_237 rfl rfl (by decide) dX7_copy_101 rfl rfl (Nat.le_of_ble_eq_true rfl) (fun z101 σ1 h101 => ?_)
                  exact R_iret hB hE rfl dX7_copy_104 (Or.inr (Or.inr (Or.inr (Or.inl ⟨⟨hy, hz⟩, (by show σ 20 1 = 0 ∧ σ 18 1 = 0; omega), (by show σ 20 2 = σ 18 2; omega), (by show ¬ (hldP (σ 20) i n ∧ hldP (σ 18) j n); unfold hldP at *; omega), h101.1, h101.2, by rw [h101.2]; exact h.fnd (by omega)⟩))))
                · refine R_aload hB (j := 0) dX7_copy_87 rfl ?_
                  refine R_iload hB (j := 6) dX7_copy_89 rfl ?_
                  refine R_iload hB (j := 7) dX7_copy_91 rfl ?_
                  refine P_cS1 hB (s_holds_0 j n hj hn hqb.2.2) ms_X7_311 (by decide) dX7_copy_93 rfl rfl (Nat.le_of_ble_eq_true rfl) (fun z93 h93 => ?_)
                  refine R_if_ne hB 105 (by omega) dX7_copy_96 rfl (fun h96 => ?_) (fun h96 => ?_)
                  · refine R_aload hB (j := 1) dX7_copy_105 rfl ?_
                    refine R_getr hB (51) fl_X7_241 dX7_copy_107 rfl rfl ?_
                    refine R_iload_n hB (j := 4) dX7_copy_110 rfl rfl ?_
                    refine R_aload hB (j := 0) dX7_copy_111 rfl ?_
                    refine R_getr hB (49) fl_X7_241 dX7_copy_113 rfl rfl ?_
                    refine R_iload hB (j := 6) dX7_copy_116 rfl ?_
                    refine R_iload hB (j := 7) dX7_copy_118 rfl ?_
                    refine N_acopy hB rfl rfl (by decide) (by unfold hldP at *; omega) (by unfold hldP at *; omega) (by unfold hldP at *; omega) ac_link ac_native ac_static ac_init (by decide) dX7_copy_120 (Nat.le_of_ble_eq_true rfl) (fun σ1 e1 => ?_)
                    refine R_iconst hB dX7_copy_123 ?_
                    exact R_iret hB hE rfl dX7_copy_124 (Or.inr (Or.inr (Or.inr (Or.inr ⟨⟨hy, hz⟩, (by show σ 20 1 = 0 ∧ σ 18 1 = 0; omega), (by show σ 20 2 = σ 18 2; omega), (by show hldP (σ 20) i n ∧ hldP (σ 18) j n; unfold hldP at *; omega), rfl, e1, h.sh (fun x hi => by
                        simp only [List.mem_cons, List.not_mem_nil, or_false, not_or] at hi
                        rw [e1, cpM_row (by omega)]) (by rw [e1, cpM_row (by decide)]) (by rw [e1, cpM_row (by decide)]; exact h.2.2.2.2.2.2) (fun x hx => by rw [e1, cpM_row (by omega)]; exact h.2.2.2.2.2.1 x hx)⟩))))
                  · refine R_aload_n hB (j := 2) dX7_copy_99 rfl rfl ?_
                    refine R_iconst hB dX7_copy_100 ?_
                    refine R_cV1 hB (s_found _ (by omega)) mv_X7_237 rfl rfl (by decide) dX7_copy_101 rfl rfl (Nat.le_of_ble_eq_true rfl) (fun z101 σ1 h101 => ?_)
                    exact R_iret hB hE rfl dX7_copy_104 (Or.inr (Or.inr (Or.inr (Or.inl ⟨⟨hy, hz⟩, (by show σ 20 1 = 0 ∧ σ 18 1 = 0; omega), (by show σ 20 2 = σ 18 2; omega), (by show ¬ (hldP (σ 20) i n ∧ hldP (σ 18) j n); unfold hldP at *; omega), h101.1, h101.2, by rw [h101.2]; exact h.fnd (by omega)⟩))))
              · refine R_aload_n hB (j := 2) dX7_copy_70 rfl rfl ?_
                refine R_iconst hB dX7_copy_71 ?_
                refine R_cV1 hB (s_found _ (by omega)) mv_X7_237 rfl rfl (by decide) dX7_copy_72 rfl rfl (Nat.le_of_ble_eq_true rfl) (fun z72 σ1 h72 => ?_)
                exact R_iret hB hE rfl dX7_copy_75 (Or.inr (Or.inr (Or.inl ⟨⟨hy, hz⟩, (by show σ 20 1 = 0 ∧ σ 18 1 = 0; omega), (by show σ 20 2 ≠ σ 18 2; omega), h72.1, h72.2, by rw [h72.2]; exact h.fnd (by omega)⟩)))
            · refine R_aload_n hB (j := 2) dX7_copy_51 rfl rfl ?_
              refine R_iconst hB dX7_copy_52 ?_
              refine R_cV1 hB (s_found _ (by omega)) mv_X7_237 rfl rfl (by decide) dX7_copy_53 rfl rfl (Nat.le_of_ble_eq_true rfl) (fun z53 σ1 h53 => ?_)
              exact R_iret hB hE rfl dX7_copy_56 (Or.inr (Or.inl ⟨⟨hy, hz⟩, (by show σ 20 1 = 1 ∨ σ 18 1 = 1; omega), h53.1, h53.2, by rw [h53.2]; exact h.fnd (by omega)⟩))
        · show Run Θ Γ 20 [(0, .ref (Th.r Θ 0)), (1, .int (I 2)), (2, .int (I i)), (3, .int (I 1)), (4, .int (I j)), (5, .int (I n))] [.ref (Th.r Θ 0)] σ
          refine R_getr hB (24) fl_X7_41 dX7_copy_20 rfl rfl ?_
          refine R_iload_n hB (j := 1) dX7_copy_23 rfl rfl ?_
          refine R_aald hB (20) rfl (by decide) (by omega) rfl dX7_copy_24 ?_
          refine R_astore hB (L' := [_, _, _, _, _, _, _]) dX7_copy_25 (Nat.le_of_ble_eq_true rfl) rfl ?_
          refine R_aload_n hB (j := 1) dX7_copy_27 rfl rfl ?_
          refine R_getr hB (24) fl_X7_41 dX7_copy_28 rfl rfl ?_
          refine R_iload_n hB (j := 4) dX7_copy_31 rfl rfl ?_
          refine R_aald hB (19) rfl (by decide) (by omega) rfl dX7_copy_32 ?_
          refine R_astore hB (L' := [_, _, _, _, _, _, _, _]) dX7_copy_33 (Nat.le_of_ble_eq_true rfl) rfl ?_
          have hqa : (σ 20 1 = 0 ∨ σ 20 1 = 1) ∧ (0 ≤ σ 20 2 ∧ σ 20 2 < 3) ∧ (0 ≤ σ 20 3 ∧ σ 20 3 ≤ 60) := h.2.2.2.2.2.1 2 (by decide)
          have hqb : (σ 19 1 = 0 ∨ σ 19 1 = 1) ∧ (0 ≤ σ 19 2 ∧ σ 19 2 < 3) ∧ (0 ≤ σ 19 3 ∧ σ 19 3 ≤ 60) := h.2.2.2.2.2.1 1 (by decide)
          refine R_aload hB (j := 1) dX7_copy_35 rfl ?_
          refine R_getz hB fl_X7_233 dX7_copy_37 rfl ?_
          refine R_if_ne hB 51 (by omega) dX7_copy_40 rfl (fun h40 => ?_) (fun h40 => ?_)
          · refine R_aload_n hB (j := 2) dX7_copy_51 rfl rfl ?_
            refine R_iconst hB dX7_copy_52 ?_
            refine R_cV1 hB (s_found _ (by omega)) mv_X7_237 rfl rfl (by decide) dX7_copy_53 rfl rfl (Nat.le_of_ble_eq_true rfl) (fun z53 σ1 h53 => ?_)
            exact R_iret hB hE rfl dX7_copy_56 (Or.inr (Or.inl ⟨⟨hy, hz⟩, (by show σ 20 1 = 1 ∨ σ 19 1 = 1; omega), h53.1, h53.2, by rw [h53.2]; exact h.fnd (by omega)⟩))
          · refine R_aload hB (j := 0) dX7_copy_43 rfl ?_
            refine R_getz hB fl_X7_233 dX7_copy_45 rfl ?_
            refine R_if_eq hB 57 (by omega) dX7_copy_48 rfl (fun h48 => ?_) (fun h48 => ?_)
            · refine R_aload hB (j := 1) dX7_copy_57 rfl ?_
              refine R_geti hB fl_X7_300 dX7_copy_59 rfl ?_
              refine R_aload hB (j := 0) dX7_copy_62 rfl ?_
              refine R_geti hB fl_X7_300 dX7_copy_64 rfl ?_
              refine R_icmp_eq hB 76 (by omega) (by omega) dX7_copy_67 rfl (fun h67 => ?_) (fun h67 => ?_)
              · refine R_aload hB (j := 1) dX7_copy_76 rfl ?_
                refine R_iload_n hB (j := 4) dX7_copy_78 rfl rfl ?_
                refine R_iload hB (j := 7) dX7_copy_79 rfl ?_
                refine P_cS1 hB (s_holds_2 i n hi hn hqa.2.2) ms_X7_311 (by decide) dX7_copy_81 rfl rfl (Nat.le_of_ble_eq_true rfl) (fun z81 h81 => ?_)
                refine R_if_eq hB 99 (by omega) dX7_copy_84 rfl (fun h84 => ?_) (fun h84 => ?_)
                · refine R_aload_n hB (j := 2) dX7_copy_99 rfl rfl ?_
                  refine R_iconst hB dX7_copy_100 ?_
                  refine R_cV1 hB (s_found _ (by omega)) mv_X7_237 rfl rfl (by decide) dX7_copy_101 rfl rfl (Nat.le_of_ble_eq_true rfl) (fun z101 σ1 h101 => ?_)
                  exact R_iret hB hE rfl dX7_copy_104 (Or.inr (Or.inr (Or.inr (Or.inl ⟨⟨hy, hz⟩, (by show σ 20 1 = 0 ∧ σ 19 1 = 0; omega), (by show σ 20 2 = σ 19 2; omega), (by show ¬ (hldP (σ 20) i n ∧ hldP (σ 19) j n); unfold hldP at *; omega), h101.1, h101.2, by rw [h101.2]; exact h.fnd (by omega)⟩))))
                · refine R_aload hB (j := 0) dX7_copy_87 rfl ?_
                  refine R_iload hB (j := 6) dX7_copy_89 rfl ?_
                  refine R_iload hB (j := 7) dX7_copy_91 rfl ?_
                  refine P_cS1 hB (s_holds_1 j n hj hn hqb.2.2) ms_X7_311 (by decide) dX7_copy_93 rfl rfl (Nat.le_of_ble_eq_true rfl) (fun z93 h93 => ?_)
                  refine R_if_ne hB 105 (by omega) dX7_copy_96 rfl (fun h96 => ?_) (fun h96 => ?_)
                  · refine R_aload hB (j := 1) dX7_copy_105 rfl ?_
                    refine R_getr hB (51) fl_X7_241 dX7_copy_107 rfl rfl ?_
                    refine R_iload_n hB (j := 4) dX7_copy_110 rfl rfl ?_
                    refine R_aload hB (j := 0) dX7_copy_111 rfl ?_
                    refine R_getr hB (50) fl_X7_241 dX7_copy_113 rfl rfl ?_
                    refine R_iload hB (j := 6) dX7_copy_116 rfl ?_
                    refine R_iload hB (j := 7) dX7_copy_118 rfl ?_
                    refine N_acopy hB rfl rfl (by decide) (by unfold hldP at *; omega) (by unfold hldP at *; omega) (by unfold hldP at *; omega) ac_link ac_native ac_static ac_init (by decide) dX7_copy_120 (Nat.le_of_ble_eq_true rfl) (fun σ1 e1 => ?_)
                    refine R_iconst hB dX7_copy_123 ?_
                    exact R_iret hB hE rfl dX7_copy_124 (Or.inr (Or.inr (Or.inr (Or.inr ⟨⟨hy, hz⟩, (by show σ 20 1 = 0 ∧ σ 19 1 = 0; omega), (by show σ 20 2 = σ 19 2; omega), (by show hldP (σ 20) i n ∧ hldP (σ 19) j n; unfold hldP at *; omega), rfl, e1, h.sh (fun x hi => by
                        simp only [List.mem_cons, List.not_mem_nil, or_false, not_or] at hi
                        rw [e1, cpM_row (by omega)]) (by rw [e1, cpM_row (by decide)]) (by rw [e1, cpM_row (by decide)]; exact h.2.2.2.2.2.2) (fun x hx => by rw [e1, cpM_row (by omega)]; exact h.2.2.2.2.2.1 x hx)⟩))))
                  · refine R_aload_n hB (j := 2) dX7_copy_99 rfl rfl ?_
                    refine R_iconst hB dX7_copy_100 ?_
                    refine R_cV1 hB (s_found _ (by omega)) mv_X7_237 rfl rfl (by decide) dX7_copy_101 rfl rfl (Nat.le_of_ble_eq_true rfl) (fun z101 σ1 h101 => ?_)
                    exact R_iret hB hE rfl dX7_copy_104 (Or.inr (Or.inr (Or.inr (Or.inl ⟨⟨hy, hz⟩, (by show σ 20 1 = 0 ∧ σ 19 1 = 0; omega), (by show σ 20 2 = σ 19 2; omega), (by show ¬ (hldP (σ 20) i n ∧ hldP (σ 19) j n); unfold hldP at *; omega), h101.1, h101.2, by rw [h101.2]; exact h.fnd (by omega)⟩))))
              · refine R_aload_n hB (j := 2) dX7_copy_70 rfl rfl ?_
                refine R_iconst hB dX7_copy_71 ?_
                refine R_cV1 hB (s_found _ (by omega)) mv_X7_237 rfl rfl (by decide) dX7_copy_72 rfl rfl (Nat.le_of_ble_eq_true rfl) (fun z72 σ1 h72 => ?_)
                exact R_iret hB hE rfl dX7_copy_75 (Or.inr (Or.inr (Or.inl ⟨⟨hy, hz⟩, (by show σ 20 1 = 0 ∧ σ 19 1 = 0; omega), (by show σ 20 2 ≠ σ 19 2; omega), h72.1, h72.2, by rw [h72.2]; exact h.fnd (by omega)⟩)))
            · refine R_aload_n hB (j := 2) dX7_copy_51 rfl rfl ?_
              refine R_iconst hB dX7_copy_52 ?_
              refine R_cV1 hB (s_found _ (by omega)) mv_X7_237 rfl rfl (by decide) dX7_copy_53 rfl rfl (Nat.le_of_ble_eq_true rfl) (fun z53 σ1 h53 => ?_)
              exact R_iret hB hE rfl dX7_copy_56 (Or.inr (Or.inl ⟨⟨hy, hz⟩, (by show σ 20 1 = 1 ∨ σ 19 1 = 1; omega), h53.1, h53.2, by rw [h53.2]; exact h.fnd (by omega)⟩))
        · show Run Θ Γ 20 [(0, .ref (Th.r Θ 0)), (1, .int (I 2)), (2, .int (I i)), (3, .int (I 2)), (4, .int (I j)), (5, .int (I n))] [.ref (Th.r Θ 0)] σ
          refine R_getr hB (24) fl_X7_41 dX7_copy_20 rfl rfl ?_
          refine R_iload_n hB (j := 1) dX7_copy_23 rfl rfl ?_
          refine R_aald hB (20) rfl (by decide) (by omega) rfl dX7_copy_24 ?_
          refine R_astore hB (L' := [_, _, _, _, _, _, _]) dX7_copy_25 (Nat.le_of_ble_eq_true rfl) rfl ?_
          refine R_aload_n hB (j := 1) dX7_copy_27 rfl rfl ?_
          refine R_getr hB (24) fl_X7_41 dX7_copy_28 rfl rfl ?_
          refine R_iload_n hB (j := 4) dX7_copy_31 rfl rfl ?_
          refine R_aald hB (20) rfl (by decide) (by omega) rfl dX7_copy_32 ?_
          refine R_astore hB (L' := [_, _, _, _, _, _, _, _]) dX7_copy_33 (Nat.le_of_ble_eq_true rfl) rfl ?_
          have hqa : (σ 20 1 = 0 ∨ σ 20 1 = 1) ∧ (0 ≤ σ 20 2 ∧ σ 20 2 < 3) ∧ (0 ≤ σ 20 3 ∧ σ 20 3 ≤ 60) := h.2.2.2.2.2.1 2 (by decide)
          have hqb : (σ 20 1 = 0 ∨ σ 20 1 = 1) ∧ (0 ≤ σ 20 2 ∧ σ 20 2 < 3) ∧ (0 ≤ σ 20 3 ∧ σ 20 3 ≤ 60) := h.2.2.2.2.2.1 2 (by decide)
          refine R_aload hB (j := 1) dX7_copy_35 rfl ?_
          refine R_getz hB fl_X7_233 dX7_copy_37 rfl ?_
          refine R_if_ne hB 51 (by omega) dX7_copy_40 rfl (fun h40 => ?_) (fun h40 => ?_)
          · refine R_aload_n hB (j := 2) dX7_copy_51 rfl rfl ?_
            refine R_iconst hB dX7_copy_52 ?_
            refine R_cV1 hB (s_found _ (by omega)) mv_X7_237 rfl rfl (by decide) dX7_copy_53 rfl rfl (Nat.le_of_ble_eq_true rfl) (fun z53 σ1 h53 => ?_)
            exact R_iret hB hE rfl dX7_copy_56 (Or.inr (Or.inl ⟨⟨hy, hz⟩, (by show σ 20 1 = 1 ∨ σ 20 1 = 1; omega), h53.1, h53.2, by rw [h53.2]; exact h.fnd (by omega)⟩))
          · refine R_aload hB (j := 0) dX7_copy_43 rfl ?_
            refine R_getz hB fl_X7_233 dX7_copy_45 rfl ?_
            refine R_if_eq hB 57 (by omega) dX7_copy_48 rfl (fun h48 => ?_) (fun h48 => ?_)
            · refine R_aload hB (j := 1) dX7_copy_57 rfl ?_
              refine R_geti hB fl_X7_300 dX7_copy_59 rfl ?_
              refine R_aload hB (j := 0) dX7_copy_62 rfl ?_
              refine R_geti hB fl_X7_300 dX7_copy_64 rfl ?_
              refine R_icmp_eq hB 76 (by omega) (by omega) dX7_copy_67 rfl (fun h67 => ?_) (fun h67 => ?_)
              · refine R_aload hB (j := 1) dX7_copy_76 rfl ?_
                refine R_iload_n hB (j := 4) dX7_copy_78 rfl rfl ?_
                refine R_iload hB (j := 7) dX7_copy_79 rfl ?_
                refine P_cS1 hB (s_holds_2 i n hi hn hqa.2.2) ms_X7_311 (by decide) dX7_copy_81 rfl rfl (Nat.le_of_ble_eq_true rfl) (fun z81 h81 => ?_)
                refine R_if_eq hB 99 (by omega) dX7_copy_84 rfl (fun h84 => ?_) (fun h84 => ?_)
                · refine R_aload_n hB (j := 2) dX7_copy_99 rfl rfl ?_
                  refine R_iconst hB dX7_copy_100 ?_
                  refine R_cV1 hB (s_found _ (by omega)) mv_X7_237 rfl rfl (by decide) dX7_copy_101 rfl rfl (Nat.le_of_ble_eq_true rfl) (fun z101 σ1 h101 => ?_)
                  exact R_iret hB hE rfl dX7_copy_104 (Or.inr (Or.inr (Or.inr (Or.inl ⟨⟨hy, hz⟩, (by show σ 20 1 = 0 ∧ σ 20 1 = 0; omega), (by show σ 20 2 = σ 20 2; omega), (by show ¬ (hldP (σ 20) i n ∧ hldP (σ 20) j n); unfold hldP at *; omega), h101.1, h101.2, by rw [h101.2]; exact h.fnd (by omega)⟩))))
                · refine R_aload hB (j := 0) dX7_copy_87 rfl ?_
                  refine R_iload hB (j := 6) dX7_copy_89 rfl ?_
                  refine R_iload hB (j := 7) dX7_copy_91 rfl ?_
                  refine P_cS1 hB (s_holds_2 j n hj hn hqb.2.2) ms_X7_311 (by decide) dX7_copy_93 rfl rfl (Nat.le_of_ble_eq_true rfl) (fun z93 h93 => ?_)
                  refine R_if_ne hB 105 (by omega) dX7_copy_96 rfl (fun h96 => ?_) (fun h96 => ?_)
                  · refine R_aload hB (j := 1) dX7_copy_105 rfl ?_
                    refine R_getr hB (51) fl_X7_241 dX7_copy_107 rfl rfl ?_
                    refine R_iload_n hB (j := 4) dX7_copy_110 rfl rfl ?_
                    refine R_aload hB (j := 0) dX7_copy_111 rfl ?_
                    refine R_getr hB (51) fl_X7_241 dX7_copy_113 rfl rfl ?_
                    refine R_iload hB (j := 6) dX7_copy_116 rfl ?_
                    refine R_iload hB (j := 7) dX7_copy_118 rfl ?_
                    refine N_acopy hB rfl rfl (by decide) (by unfold hldP at *; omega) (by unfold hldP at *; omega) (by unfold hldP at *; omega) ac_link ac_native ac_static ac_init (by decide) dX7_copy_120 (Nat.le_of_ble_eq_true rfl) (fun σ1 e1 => ?_)
                    refine R_iconst hB dX7_copy_123 ?_
                    exact R_iret hB hE rfl dX7_copy_124 (Or.inr (Or.inr (Or.inr (Or.inr ⟨⟨hy, hz⟩, (by show σ 20 1 = 0 ∧ σ 20 1 = 0; omega), (by show σ 20 2 = σ 20 2; omega), (by show hldP (σ 20) i n ∧ hldP (σ 20) j n; unfold hldP at *; omega), rfl, e1, h.sh (fun x hi => by
                        simp only [List.mem_cons, List.not_mem_nil, or_false, not_or] at hi
                        rw [e1, cpM_row (by omega)]) (by rw [e1, cpM_row (by decide)]) (by rw [e1, cpM_row (by decide)]; exact h.2.2.2.2.2.2) (fun x hx => by rw [e1, cpM_row (by omega)]; exact h.2.2.2.2.2.1 x hx)⟩))))
                  · refine R_aload_n hB (j := 2) dX7_copy_99 rfl rfl ?_
                    refine R_iconst hB dX7_copy_100 ?_
                    refine R_cV1 hB (s_found _ (by omega)) mv_X7_237 rfl rfl (by decide) dX7_copy_101 rfl rfl (Nat.le_of_ble_eq_true rfl) (fun z101 σ1 h101 => ?_)
                    exact R_iret hB hE rfl dX7_copy_104 (Or.inr (Or.inr (Or.inr (Or.inl ⟨⟨hy, hz⟩, (by show σ 20 1 = 0 ∧ σ 20 1 = 0; omega), (by show σ 20 2 = σ 20 2; omega), (by show ¬ (hldP (σ 20) i n ∧ hldP (σ 20) j n); unfold hldP at *; omega), h101.1, h101.2, by rw [h101.2]; exact h.fnd (by omega)⟩))))
              · refine R_aload_n hB (j := 2) dX7_copy_70 rfl rfl ?_
                refine R_iconst hB dX7_copy_71 ?_
                refine R_cV1 hB (s_found _ (by omega)) mv_X7_237 rfl rfl (by decide) dX7_copy_72 rfl rfl (Nat.le_of_ble_eq_true rfl) (fun z72 σ1 h72 => ?_)
                exact R_iret hB hE rfl dX7_copy_75 (Or.inr (Or.inr (Or.inl ⟨⟨hy, hz⟩, (by show σ 20 1 = 0 ∧ σ 20 1 = 0; omega), (by show σ 20 2 ≠ σ 20 2; omega), h72.1, h72.2, by rw [h72.2]; exact h.fnd (by omega)⟩)))
            · refine R_aload_n hB (j := 2) dX7_copy_51 rfl rfl ?_
              refine R_iconst hB dX7_copy_52 ?_
              refine R_cV1 hB (s_found _ (by omega)) mv_X7_237 rfl rfl (by decide) dX7_copy_53 rfl rfl (Nat.le_of_ble_eq_true rfl) (fun z53 σ1 h53 => ?_)
              exact R_iret hB hE rfl dX7_copy_56 (Or.inr (Or.inl ⟨⟨hy, hz⟩, (by show σ 20 1 = 1 ∨ σ 20 1 = 1; omega), h53.1, h53.2, by rw [h53.2]; exact h.fnd (by omega)⟩))
        · show Run Θ Γ 20 [(0, .ref (Th.r Θ 0)), (1, .int (I 2)), (2, .int (I i)), (3, .int (I 3)), (4, .int (I j)), (5, .int (I n))] [.ref (Th.r Θ 0)] σ
          refine R_getr hB (24) fl_X7_41 dX7_copy_20 rfl rfl ?_
          refine R_iload_n hB (j := 1) dX7_copy_23 rfl rfl ?_
          refine R_aald hB (20) rfl (by decide) (by omega) rfl dX7_copy_24 ?_
          refine R_astore hB (L' := [_, _, _, _, _, _, _]) dX7_copy_25 (Nat.le_of_ble_eq_true rfl) rfl ?_
          refine R_aload_n hB (j := 1) dX7_copy_27 rfl rfl ?_
          refine R_getr hB (24) fl_X7_41 dX7_copy_28 rfl rfl ?_
          refine R_iload_n hB (j := 4) dX7_copy_31 rfl rfl ?_
          refine R_aald hB (21) rfl (by decide) (by omega) rfl dX7_copy_32 ?_
          refine R_astore hB (L' := [_, _, _, _, _, _, _, _]) dX7_copy_33 (Nat.le_of_ble_eq_true rfl) rfl ?_
          have hqa : (σ 20 1 = 0 ∨ σ 20 1 = 1) ∧ (0 ≤ σ 20 2 ∧ σ 20 2 < 3) ∧ (0 ≤ σ 20 3 ∧ σ 20 3 ≤ 60) := h.2.2.2.2.2.1 2 (by decide)
          have hqb : (σ 21 1 = 0 ∨ σ 21 1 = 1) ∧ (0 ≤ σ 21 2 ∧ σ 21 2 < 3) ∧ (0 ≤ σ 21 3 ∧ σ 21 3 ≤ 60) := h.2.2.2.2.2.1 3 (by decide)
          refine R_aload hB (j := 1) dX7_copy_35 rfl ?_
          refine R_getz hB fl_X7_233 dX7_copy_37 rfl ?_
          refine R_if_ne hB 51 (by omega) dX7_copy_40 rfl (fun h40 => ?_) (fun h40 => ?_)
          · refine R_aload_n hB (j := 2) dX7_copy_51 rfl rfl ?_
            refine R_iconst hB dX7_copy_52 ?_
            refine R_cV1 hB (s_found _ (by omega)) mv_X7_237 rfl rfl (by decide) dX7_copy_53 rfl rfl (Nat.le_of_ble_eq_true rfl) (fun z53 σ1 h53 => ?_)
            exact R_iret hB hE rfl dX7_copy_56 (Or.inr (Or.inl ⟨⟨hy, hz⟩, (by show σ 20 1 = 1 ∨ σ 21 1 = 1; omega), h53.1, h53.2, by rw [h53.2]; exact h.fnd (by omega)⟩))
          · refine R_aload hB (j := 0) dX7_copy_43 rfl ?_
            refine R_getz hB fl_X7_233 dX7_copy_45 rfl ?_
            refine R_if_eq hB 57 (by omega) dX7_copy_48 rfl (fun h48 => ?_) (fun h48 => ?_)
            · refine R_aload hB (j := 1) dX7_copy_57 rfl ?_
              refine R_geti hB fl_X7_300 dX7_copy_59 rfl ?_
              refine R_aload hB (j := 0) dX7_copy_62 rfl ?_
              refine R_geti hB fl_X7_300 dX7_copy_64 rfl ?_
              refine R_icmp_eq hB 76 (by omega) (by omega) dX7_copy_67 rfl (fun h67 => ?_) (fun h67 => ?_)
              · refine R_aload hB (j := 1) dX7_copy_76 rfl ?_
                refine R_iload_n hB (j := 4) dX7_copy_78 rfl rfl ?_
                refine R_iload hB (j := 7) dX7_copy_79 rfl ?_
                refine P_cS1 hB (s_holds_2 i n hi hn hqa.2.2) ms_X7_311 (by decide) dX7_copy_81 rfl rfl (Nat.le_of_ble_eq_true rfl) (fun z81 h81 => ?_)
                refine R_if_eq hB 99 (by omega) dX7_copy_84 rfl (fun h84 => ?_) (fun h84 => ?_)
                · refine R_aload_n hB (j := 2) dX7_copy_99 rfl rfl ?_
                  refine R_iconst hB dX7_copy_100 ?_
                  refine R_cV1 hB (s_found _ (by omega)) mv_X7_237 rfl rfl (by decide) dX7_copy_101 rfl rfl (Nat.le_of_ble_eq_true rfl) (fun z101 σ1 h101 => ?_)
                  exact R_iret hB hE rfl dX7_copy_104 (Or.inr (Or.inr (Or.inr (Or.inl ⟨⟨hy, hz⟩, (by show σ 20 1 = 0 ∧ σ 21 1 = 0; omega), (by show σ 20 2 = σ 21 2; omega), (by show ¬ (hldP (σ 20) i n ∧ hldP (σ 21) j n); unfold hldP at *; omega), h101.1, h101.2, by rw [h101.2]; exact h.fnd (by omega)⟩))))
                · refine R_aload hB (j := 0) dX7_copy_87 rfl ?_
                  refine R_iload hB (j := 6) dX7_copy_89 rfl ?_
                  refine R_iload hB (j := 7) dX7_copy_91 rfl ?_
                  refine P_cS1 hB (s_holds_3 j n hj hn hqb.2.2) ms_X7_311 (by decide) dX7_copy_93 rfl rfl (Nat.le_of_ble_eq_true rfl) (fun z93 h93 => ?_)
                  refine R_if_ne hB 105 (by omega) dX7_copy_96 rfl (fun h96 => ?_) (fun h96 => ?_)
                  · refine R_aload hB (j := 1) dX7_copy_105 rfl ?_
                    refine R_getr hB (51) fl_X7_241 dX7_copy_107 rfl rfl ?_
                    refine R_iload_n hB (j := 4) dX7_copy_110 rfl rfl ?_
                    refine R_aload hB (j := 0) dX7_copy_111 rfl ?_
                    refine R_getr hB (52) fl_X7_241 dX7_copy_113 rfl rfl ?_
                    refine R_iload hB (j := 6) dX7_copy_116 rfl ?_
                    refine R_iload hB (j := 7) dX7_copy_118 rfl ?_
                    refine N_acopy hB rfl rfl (by decide) (by unfold hldP at *; omega) (by unfold hldP at *; omega) (by unfold hldP at *; omega) ac_link ac_native ac_static ac_init (by decide) dX7_copy_120 (Nat.le_of_ble_eq_true rfl) (fun σ1 e1 => ?_)
                    refine R_iconst hB dX7_copy_123 ?_
                    exact R_iret hB hE rfl dX7_copy_124 (Or.inr (Or.inr (Or.inr (Or.inr ⟨⟨hy, hz⟩, (by show σ 20 1 = 0 ∧ σ 21 1 = 0; omega), (by show σ 20 2 = σ 21 2; omega), (by show hldP (σ 20) i n ∧ hldP (σ 21) j n; unfold hldP at *; omega), rfl, e1, h.sh (fun x hi => by
                        simp only [List.mem_cons, List.not_mem_nil, or_false, not_or] at hi
                        rw [e1, cpM_row (by omega)]) (by rw [e1, cpM_row (by decide)]) (by rw [e1, cpM_row (by decide)]; exact h.2.2.2.2.2.2) (fun x hx => by rw [e1, cpM_row (by omega)]; exact h.2.2.2.2.2.1 x hx)⟩))))
                  · refine R_aload_n hB (j := 2) dX7_copy_99 rfl rfl ?_
                    refine R_iconst hB dX7_copy_100 ?_
                    refine R_cV1 hB (s_found _ (by omega)) mv_X7_237 rfl rfl (by decide) dX7_copy_101 rfl rfl (Nat.le_of_ble_eq_true rfl) (fun z101 σ1 h101 => ?_)
                    exact R_iret hB hE rfl dX7_copy_104 (Or.inr (Or.inr (Or.inr (Or.inl ⟨⟨hy, hz⟩, (by show σ 20 1 = 0 ∧ σ 21 1 = 0; omega), (by show σ 20 2 = σ 21 2; omega), (by show ¬ (hldP (σ 20) i n ∧ hldP (σ 21) j n); unfold hldP at *; omega), h101.1, h101.2, by rw [h101.2]; exact h.fnd (by omega)⟩))))
              · refine R_aload_n hB (j := 2) dX7_copy_70 rfl rfl ?_
                refine R_iconst hB dX7_copy_71 ?_
                refine R_cV1 hB (s_found _ (by omega)) mv_X7_237 rfl rfl (by decide) dX7_copy_72 rfl rfl (Nat.le_of_ble_eq_true rfl) (fun z72 σ1 h72 => ?_)
                exact R_iret hB hE rfl dX7_copy_75 (Or.inr (Or.inr (Or.inl ⟨⟨hy, hz⟩, (by show σ 20 1 = 0 ∧ σ 21 1 = 0; omega), (by show σ 20 2 ≠ σ 21 2; omega), h72.1, h72.2, by rw [h72.2]; exact h.fnd (by omega)⟩)))
            · refine R_aload_n hB (j := 2) dX7_copy_51 rfl rfl ?_
              refine R_iconst hB dX7_copy_52 ?_
              refine R_cV1 hB (s_found _ (by omega)) mv_X7_237 rfl rfl (by decide) dX7_copy_53 rfl rfl (Nat.le_of_ble_eq_true rfl) (fun z53 σ1 h53 => ?_)
              exact R_iret hB hE rfl dX7_copy_56 (Or.inr (Or.inl ⟨⟨hy, hz⟩, (by show σ 20 1 = 1 ∨ σ 21 1 = 1; omega), h53.1, h53.2, by rw [h53.2]; exact h.fnd (by omega)⟩))
      · show Run Θ Γ 19 [(0, .ref (Th.r Θ 0)), (1, .int (I 3)), (2, .int (I i)), (3, .int (I t)), (4, .int (I j)), (5, .int (I n))] [] σ
        refine R_aload_n hB (j := 0) dX7_copy_19 rfl rfl ?_
        rcases (show t = 0 ∨ t = 1 ∨ t = 2 ∨ t = 3 by omega) with rfl | rfl | rfl | rfl
        · show Run Θ Γ 20 [(0, .ref (Th.r Θ 0)), (1, .int (I 3)), (2, .int (I i)), (3, .int (I 0)), (4, .int (I j)), (5, .int (I n))] [.ref (Th.r Θ 0)] σ
          refine R_getr hB (24) fl_X7_41 dX7_copy_20 rfl rfl ?_
          refine R_iload_n hB (j := 1) dX7_copy_23 rfl rfl ?_
          refine R_aald hB (21) rfl (by decide) (by omega) rfl dX7_copy_24 ?_
          refine R_astore hB (L' := [_, _, _, _, _, _, _]) dX7_copy_25 (Nat.le_of_ble_eq_true rfl) rfl ?_
          refine R_aload_n hB (j := 1) dX7_copy_27 rfl rfl ?_
          refine R_getr hB (24) fl_X7_41 dX7_copy_28 rfl rfl ?_
          refine R_iload_n hB (j := 4) dX7_copy_31 rfl rfl ?_
          refine R_aald hB (18) rfl (by decide) (by omega) rfl dX7_copy_32 ?_
          refine R_astore hB (L' := [_, _, _, _, _, _, _, _]) dX7_copy_33 (Nat.le_of_ble_eq_true rfl) rfl ?_
          have hqa : (σ 21 1 = 0 ∨ σ 21 1 = 1) ∧ (0 ≤ σ 21 2 ∧ σ 21 2 < 3) ∧ (0 ≤ σ 21 3 ∧ σ 21 3 ≤ 60) := h.2.2.2.2.2.1 3 (by decide)
          have hqb : (σ 18 1 = 0 ∨ σ 18 1 = 1) ∧ (0 ≤ σ 18 2 ∧ σ 18 2 < 3) ∧ (0 ≤ σ 18 3 ∧ σ 18 3 ≤ 60) := h.2.2.2.2.2.1 0 (by decide)
          refine R_aload hB (j := 1) dX7_copy_35 rfl ?_
          refine R_getz hB fl_X7_233 dX7_copy_37 rfl ?_
          refine R_if_ne hB 51 (by omega) dX7_copy_40 rfl (fun h40 => ?_) (fun h40 => ?_)
          · refine R_aload_n hB (j := 2) dX7_copy_51 rfl rfl ?_
            refine R_iconst hB dX7_copy_52 ?_
            refine R_cV1 hB (s_found _ (by omega)) mv_X7_237 rfl rfl (by decide) dX7_copy_53 rfl rfl (Nat.le_of_ble_eq_true rfl) (fun z53 σ1 h53 => ?_)
            exact R_iret hB hE rfl dX7_copy_56 (Or.inr (Or.inl ⟨⟨hy, hz⟩, (by show σ 21 1 = 1 ∨ σ 18 1 = 1; omega), h53.1, h53.2, by rw [h53.2]; exact h.fnd (by omega)⟩))
          · refine R_aload hB (j := 0) dX7_copy_43 rfl ?_
            refine R_getz hB fl_X7_233 dX7_copy_45 rfl ?_
            refine R_if_eq hB 57 (by omega) dX7_copy_48 rfl (fun h48 => ?_) (fun h48 => ?_)
            · refine R_aload hB (j := 1) dX7_copy_57 rfl ?_
              refine R_geti hB fl_X7_300 dX7_copy_59 rfl ?_
              refine R_aload hB (j := 0) dX7_copy_62 rfl ?_
              refine R_geti hB fl_X7_300 dX7_copy_64 rfl ?_
              refine R_icmp_eq hB 76 (by omega) (by omega) dX7_copy_67 rfl (fun h67 => ?_) (fun h67 => ?_)
              · refine R_aload hB (j := 1) dX7_copy_76 rfl ?_
                refine R_iload_n hB (j := 4) dX7_copy_78 rfl rfl ?_
                refine R_iload hB (j := 7) dX7_copy_79 rfl ?_
                refine P_cS1 hB (s_holds_3 i n hi hn hqa.2.2) ms_X7_311 (by decide) dX7_copy_81 rfl rfl (Nat.le_of_ble_eq_true rfl) (fun z81 h81 => ?_)
                refine R_if_eq hB 99 (by omega) dX7_copy_84 rfl (fun h84 => ?_) (fun h84 => ?_)
                · refine R_aload_n hB (j := 2) dX7_copy_99 rfl rfl ?_
                  refine R_iconst hB dX7_copy_100 ?_
                  refine R_cV1 hB (s_found _ (by omega)) mv_X7_237 rfl rfl (by decide) dX7_copy_101 rfl rfl (Nat.le_of_ble_eq_true rfl) (fun z101 σ1 h101 => ?_)
                  exact R_iret hB hE rfl dX7_copy_104 (Or.inr (Or.inr (Or.inr (Or.inl ⟨⟨hy, hz⟩, (by show σ 21 1 = 0 ∧ σ 18 1 = 0; omega), (by show σ 21 2 = σ 18 2; omega), (by show ¬ (hldP (σ 21) i n ∧ hldP (σ 18) j n); unfold hldP at *; omega), h101.1, h101.2, by rw [h101.2]; exact h.fnd (by omega)⟩))))
                · refine R_aload hB (j := 0) dX7_copy_87 rfl ?_
                  refine R_iload hB (j := 6) dX7_copy_89 rfl ?_
                  refine R_iload hB (j := 7) dX7_copy_91 rfl ?_
                  refine P_cS1 hB (s_holds_0 j n hj hn hqb.2.2) ms_X7_311 (by decide) dX7_copy_93 rfl rfl (Nat.le_of_ble_eq_true rfl) (fun z93 h93 => ?_)
                  refine R_if_ne hB 105 (by omega) dX7_copy_96 rfl (fun h96 => ?_) (fun h96 => ?_)
                  · refine R_aload hB (j := 1) dX7_copy_105 rfl ?_
                    refine R_getr hB (52) fl_X7_241 dX7_copy_107 rfl rfl ?_
                    refine R_iload_n hB (j := 4) dX7_copy_110 rfl rfl ?_
                    refine R_aload hB (j := 0) dX7_copy_111 rfl ?_
                    refine R_getr hB (49) fl_X7_241 dX7_copy_113 rfl rfl ?_
                    refine R_iload hB (j := 6) dX7_copy_116 rfl ?_
                    refine R_iload hB (j := 7) dX7_copy_118 rfl ?_
                    refine N_acopy hB rfl rfl (by decide) (by unfold hldP at *; omega) (by unfold hldP at *; omega) (by unfold hldP at *; omega) ac_link ac_native ac_static ac_init (by decide) dX7_copy_120 (Nat.le_of_ble_eq_true rfl) (fun σ1 e1 => ?_)
                    refine R_iconst hB dX7_copy_123 ?_
                    exact R_iret hB hE rfl dX7_copy_124 (Or.inr (Or.inr (Or.inr (Or.inr ⟨⟨hy, hz⟩, (by show σ 21 1 = 0 ∧ σ 18 1 = 0; omega), (by show σ 21 2 = σ 18 2; omega), (by show hldP (σ 21) i n ∧ hldP (σ 18) j n; unfold hldP at *; omega), rfl, e1, h.sh (fun x hi => by
                        simp only [List.mem_cons, List.not_mem_nil, or_false, not_or] at hi
                        rw [e1, cpM_row (by omega)]) (by rw [e1, cpM_row (by decide)]) (by rw [e1, cpM_row (by decide)]; exact h.2.2.2.2.2.2) (fun x hx => by rw [e1, cpM_row (by omega)]; exact h.2.2.2.2.2.1 x hx)⟩))))
                  · refine R_aload_n hB (j := 2) dX7_copy_99 rfl rfl ?_
                    refine R_iconst hB dX7_copy_100 ?_
                    refine R_cV1 hB (s_found _ (by omega)) mv_X7_237 rfl rfl (by decide) dX7_copy_101 rfl rfl (Nat.le_of_ble_eq_true rfl) (fun z101 σ1 h101 => ?_)
                    exact R_iret hB hE rfl dX7_copy_104 (Or.inr (Or.inr (Or.inr (Or.inl ⟨⟨hy, hz⟩, (by show σ 21 1 = 0 ∧ σ 18 1 = 0; omega), (by show σ 21 2 = σ 18 2; omega), (by show ¬ (hldP (σ 21) i n ∧ hldP (σ 18) j n); unfold hldP at *; omega), h101.1, h101.2, by rw [h101.2]; exact h.fnd (by omega)⟩))))
              · refine R_aload_n hB (j := 2) dX7_copy_70 rfl rfl ?_
                refine R_iconst hB dX7_copy_71 ?_
                refine R_cV1 hB (s_found _ (by omega)) mv_X7_237 rfl rfl (by decide) dX7_copy_72 rfl rfl (Nat.le_of_ble_eq_true rfl) (fun z72 σ1 h72 => ?_)
                exact R_iret hB hE rfl dX7_copy_75 (Or.inr (Or.inr (Or.inl ⟨⟨hy, hz⟩, (by show σ 21 1 = 0 ∧ σ 18 1 = 0; omega), (by show σ 21 2 ≠ σ 18 2; omega), h72.1, h72.2, by rw [h72.2]; exact h.fnd (by omega)⟩)))
            · refine R_aload_n hB (j := 2) dX7_copy_51 rfl rfl ?_
              refine R_iconst hB dX7_copy_52 ?_
              refine R_cV1 hB (s_found _ (by omega)) mv_X7_237 rfl rfl (by decide) dX7_copy_53 rfl rfl (Nat.le_of_ble_eq_true rfl) (fun z53 σ1 h53 => ?_)
              exact R_iret hB hE rfl dX7_copy_56 (Or.inr (Or.inl ⟨⟨hy, hz⟩, (by show σ 21 1 = 1 ∨ σ 18 1 = 1; omega), h53.1, h53.2, by rw [h53.2]; exact h.fnd (by omega)⟩))
        · show Run Θ Γ 20 [(0, .ref (Th.r Θ 0)), (1, .int (I 3)), (2, .int (I i)), (3, .int (I 1)), (4, .int (I j)), (5, .int (I n))] [.ref (Th.r Θ 0)] σ
          refine R_getr hB (24) fl_X7_41 dX7_copy_20 rfl rfl ?_
          refine R_iload_n hB (j := 1) dX7_copy_23 rfl rfl ?_
          refine R_aald hB (21) rfl (by decide) (by omega) rfl dX7_copy_24 ?_
          refine R_astore hB (L' := [_, _, _, _, _, _, _]) dX7_copy_25 (Nat.le_of_ble_eq_true rfl) rfl ?_
          refine R_aload_n hB (j := 1) dX7_copy_27 rfl rfl ?_
          refine R_getr hB (24) fl_X7_41 dX7_copy_28 rfl rfl ?_
          refine R_iload_n hB (j := 4) dX7_copy_31 rfl rfl ?_
          refine R_aald hB (19) rfl (by decide) (by omega) rfl dX7_copy_32 ?_
          refine R_astore hB (L' := [_, _, _, _, _, _, _, _]) dX7_copy_33 (Nat.le_of_ble_eq_true rfl) rfl ?_
          have hqa : (σ 21 1 = 0 ∨ σ 21 1 = 1) ∧ (0 ≤ σ 21 2 ∧ σ 21 2 < 3) ∧ (0 ≤ σ 21 3 ∧ σ 21 3 ≤ 60) := h.2.2.2.2.2.1 3 (by decide)
          have hqb : (σ 19 1 = 0 ∨ σ 19 1 = 1) ∧ (0 ≤ σ 19 2 ∧ σ 19 2 < 3) ∧ (0 ≤ σ 19 3 ∧ σ 19 3 ≤ 60) := h.2.2.2.2.2.1 1 (by decide)
          refine R_aload hB (j := 1) dX7_copy_35 rfl ?_
          refine R_getz hB fl_X7_233 dX7_copy_37 rfl ?_
          refine R_if_ne hB 51 (by omega) dX7_copy_40 rfl (fun h40 => ?_) (fun h40 => ?_)
          · refine R_aload_n hB (j := 2) dX7_copy_51 rfl rfl ?_
            refine R_iconst hB dX7_copy_52 ?_
            refine R_cV1 hB (s_found _ (by omega)) mv_X7_237 rfl rfl (by decide) dX7_copy_53 rfl rfl (Nat.le_of_ble_eq_true rfl) (fun z53 σ1 h53 => ?_)
            exact R_iret hB hE rfl dX7_copy_56 (Or.inr (Or.inl ⟨⟨hy, hz⟩, (by show σ 21 1 = 1 ∨ σ 19 1 = 1; omega), h53.1, h53.2, by rw [h53.2]; exact h.fnd (by omega)⟩))
          · refine R_aload hB (j := 0) dX7_copy_43 rfl ?_
            refine R_getz hB fl_X7_233 dX7_copy_45 rfl ?_
            refine R_if_eq hB 57 (by omega) dX7_copy_48 rfl (fun h48 => ?_) (fun h48 => ?_)
            · refine R_aload hB (j := 1) dX7_copy_57 rfl ?_
              refine R_geti hB fl_X7_300 dX7_copy_59 rfl ?_
              refine R_aload hB (j := 0) dX7_copy_62 rfl ?_
              refine R_geti hB fl_X7_300 dX7_copy_64 rfl ?_
              refine R_icmp_eq hB 76 (by omega) (by omega) dX7_copy_67 rfl (fun h67 => ?_) (fun h67 => ?_)
              · refine R_aload hB (j := 1) dX7_copy_76 rfl ?_
                refine R_iload_n hB (j := 4) dX7_copy_78 rfl rfl ?_
                refine R_iload hB (j := 7) dX7_copy_79 rfl ?_
                refine P_cS1 hB (s_holds_3 i n hi hn hqa.2.2) ms_X7_311 (by decide) dX7_copy_81 rfl rfl (Nat.le_of_ble_eq_true rfl) (fun z81 h81 => ?_)
                refine R_if_eq hB 99 (by omega) dX7_copy_84 rfl (fun h84 => ?_) (fun h84 => ?_)
                · refine R_aload_n hB (j := 2) dX7_copy_99 rfl rfl ?_
                  refine R_iconst hB dX7_copy_100 ?_
                  refine R_cV1 hB (s_found _ (by omega)) mv_X7_237 rfl rfl (by decide) dX7_copy_101 rfl rfl (Nat.le_of_ble_eq_true rfl) (fun z101 σ1 h101 => ?_)
                  exact R_iret hB hE rfl dX7_copy_104 (Or.inr (Or.inr (Or.inr (Or.inl ⟨⟨hy, hz⟩, (by show σ 21 1 = 0 ∧ σ 19 1 = 0; omega), (by show σ 21 2 = σ 19 2; omega), (by show ¬ (hldP (σ 21) i n ∧ hldP (σ 19) j n); unfold hldP at *; omega), h101.1, h101.2, by rw [h101.2]; exact h.fnd (by omega)⟩))))
                · refine R_aload hB (j := 0) dX7_copy_87 rfl ?_
                  refine R_iload hB (j := 6) dX7_copy_89 rfl ?_
                  refine R_iload hB (j := 7) dX7_copy_91 rfl ?_
                  refine P_cS1 hB (s_holds_1 j n hj hn hqb.2.2) ms_X7_311 (by decide) dX7_copy_93 rfl rfl (Nat.le_of_ble_eq_true rfl) (fun z93 h93 => ?_)
                  refine R_if_ne hB 105 (by omega) dX7_copy_96 rfl (fun h96 => ?_) (fun h96 => ?_)
                  · refine R_aload hB (j := 1) dX7_copy_105 rfl ?_
                    refine R_getr hB (52) fl_X7_241 dX7_copy_107 rfl rfl ?_
                    refine R_iload_n hB (j := 4) dX7_copy_110 rfl rfl ?_
                    refine R_aload hB (j := 0) dX7_copy_111 rfl ?_
                    refine R_getr hB (50) fl_X7_241 dX7_copy_113 rfl rfl ?_
                    refine R_iload hB (j := 6) dX7_copy_116 rfl ?_
                    refine R_iload hB (j := 7) dX7_copy_118 rfl ?_
                    refine N_acopy hB rfl rfl (by decide) (by unfold hldP at *; omega) (by unfold hldP at *; omega) (by unfold hldP at *; omega) ac_link ac_native ac_static ac_init (by decide) dX7_copy_120 (Nat.le_of_ble_eq_true rfl) (fun σ1 e1 => ?_)
                    refine R_iconst hB dX7_copy_123 ?_
                    exact R_iret hB hE rfl dX7_copy_124 (Or.inr (Or.inr (Or.inr (Or.inr ⟨⟨hy, hz⟩, (by show σ 21 1 = 0 ∧ σ 19 1 = 0; omega), (by show σ 21 2 = σ 19 2; omega), (by show hldP (σ 21) i n ∧ hldP (σ 19) j n; unfold hldP at *; omega), rfl, e1, h.sh (fun x hi => by
                        simp only [List.mem_cons, List.not_mem_nil, or_false, not_or] at hi
                        rw [e1, cpM_row (by omega)]) (by rw [e1, cpM_row (by decide)]) (by rw [e1, cpM_row (by decide)]; exact h.2.2.2.2.2.2) (fun x hx => by rw [e1, cpM_row (by omega)]; exact h.2.2.2.2.2.1 x hx)⟩))))
                  · refine R_aload_n hB (j := 2) dX7_copy_99 rfl rfl ?_
                    refine R_iconst hB dX7_copy_100 ?_
                    refine R_cV1 hB (s_found _ (by omega)) mv_X7_237 rfl rfl (by decide) dX7_copy_101 rfl rfl (Nat.le_of_ble_eq_true rfl) (fun z101 σ1 h101 => ?_)
                    exact R_iret hB hE rfl dX7_copy_104 (Or.inr (Or.inr (Or.inr (Or.inl ⟨⟨hy, hz⟩, (by show σ 21 1 = 0 ∧ σ 19 1 = 0; omega), (by show σ 21 2 = σ 19 2; omega), (by show ¬ (hldP (σ 21) i n ∧ hldP (σ 19) j n); unfold hldP at *; omega), h101.1, h101.2, by rw [h101.2]; exact h.fnd (by omega)⟩))))
              · refine R_aload_n hB (j := 2) dX7_copy_70 rfl rfl ?_
                refine R_iconst hB dX7_copy_71 ?_
                refine R_cV1 hB (s_found _ (by omega)) mv_X7_237 rfl rfl (by decide) dX7_copy_72 rfl rfl (Nat.le_of_ble_eq_true rfl) (fun z72 σ1 h72 => ?_)
                exact R_iret hB hE rfl dX7_copy_75 (Or.inr (Or.inr (Or.inl ⟨⟨hy, hz⟩, (by show σ 21 1 = 0 ∧ σ 19 1 = 0; omega), (by show σ 21 2 ≠ σ 19 2; omega), h72.1, h72.2, by rw [h72.2]; exact h.fnd (by omega)⟩)))
            · refine R_aload_n hB (j := 2) dX7_copy_51 rfl rfl ?_
              refine R_iconst hB dX7_copy_52 ?_
              refine R_cV1 hB (s_found _ (by omega)) mv_X7_237 rfl rfl (by decide) dX7_copy_53 rfl rfl (Nat.le_of_ble_eq_true rfl) (fun z53 σ1 h53 => ?_)
              exact R_iret hB hE rfl dX7_copy_56 (Or.inr (Or.inl ⟨⟨hy, hz⟩, (by show σ 21 1 = 1 ∨ σ 19 1 = 1; omega), h53.1, h53.2, by rw [h53.2]; exact h.fnd (by omega)⟩))
        · show Run Θ Γ 20 [(0, .ref (Th.r Θ 0)), (1, .int (I 3)), (2, .int (I i)), (3, .int (I 2)), (4, .int (I j)), (5, .int (I n))] [.ref (Th.r Θ 0)] σ
          refine R_getr hB (24) fl_X7_41 dX7_copy_20 rfl rfl ?_
          refine R_iload_n hB (j := 1) dX7_copy_23 rfl rfl ?_
          refine R_aald hB (21) rfl (by decide) (by omega) rfl dX7_copy_24 ?_
          refine R_astore hB (L' := [_, _, _, _, _, _, _]) dX7_copy_25 (Nat.le_of_ble_eq_true rfl) rfl ?_
          refine R_aload_n hB (j := 1) dX7_copy_27 rfl rfl ?_
          refine R_getr hB (24) fl_X7_41 dX7_copy_28 rfl rfl ?_
          refine R_iload_n hB (j := 4) dX7_copy_31 rfl rfl ?_
          refine R_aald hB (20) rfl (by decide) (by omega) rfl dX7_copy_32 ?_
          refine R_astore hB (L' := [_, _, _, _, _, _, _, _]) dX7_copy_33 (Nat.le_of_ble_eq_true rfl) rfl ?_
          have hqa : (σ 21 1 = 0 ∨ σ 21 1 = 1) ∧ (0 ≤ σ 21 2 ∧ σ 21 2 < 3) ∧ (0 ≤ σ 21 3 ∧ σ 21 3 ≤ 60) := h.2.2.2.2.2.1 3 (by decide)
          have hqb : (σ 20 1 = 0 ∨ σ 20 1 = 1) ∧ (0 ≤ σ 20 2 ∧ σ 20 2 < 3) ∧ (0 ≤ σ 20 3 ∧ σ 20 3 ≤ 60) := h.2.2.2.2.2.1 2 (by decide)
          refine R_aload hB (j := 1) dX7_copy_35 rfl ?_
          refine R_getz hB fl_X7_233 dX7_copy_37 rfl ?_
          refine R_if_ne hB 51 (by omega) dX7_copy_40 rfl (fun h40 => ?_) (fun h40 => ?_)
          · refine R_aload_n hB (j := 2) dX7_copy_51 rfl rfl ?_
            refine R_iconst hB dX7_copy_52 ?_
            refine R_cV1 hB (s_found _ (by omega)) mv_X7_237 rfl rfl (by decide) dX7_copy_53 rfl rfl (Nat.le_of_ble_eq_true rfl) (fun z53 σ1 h53 => ?_)
            exact R_iret hB hE rfl dX7_copy_56 (Or.inr (Or.inl ⟨⟨hy, hz⟩, (by show σ 21 1 = 1 ∨ σ 20 1 = 1; omega), h53.1, h53.2, by rw [h53.2]; exact h.fnd (by omega)⟩))
          · refine R_aload hB (j := 0) dX7_copy_43 rfl ?_
            refine R_getz hB fl_X7_233 dX7_copy_45 rfl ?_
            refine R_if_eq hB 57 (by omega) dX7_copy_48 rfl (fun h48 => ?_) (fun h48 => ?_)
            · refine R_aload hB (j := 1) dX7_copy_57 rfl ?_
              refine R_geti hB fl_X7_300 dX7_copy_59 rfl ?_
              refine R_aload hB (j := 0) dX7_copy_62 rfl ?_
              refine R_geti hB fl_X7_300 dX7_copy_64 rfl ?_
              refine R_icmp_eq hB 76 (by omega) (by omega) dX7_copy_67 rfl (fun h67 => ?_) (fun h67 => ?_)
              · refine R_aload hB (j := 1) dX7_copy_76 rfl ?_
                refine R_iload_n hB (j := 4) dX7_copy_78 rfl rfl ?_
                refine R_iload hB (j := 7) dX7_copy_79 rfl ?_
                refine P_cS1 hB (s_holds_3 i n hi hn hqa.2.2) ms_X7_311 (by decide) dX7_copy_81 rfl rfl (Nat.le_of_ble_eq_true rfl) (fun z81 h81 => ?_)
                refine R_if_eq hB 99 (by omega) dX7_copy_84 rfl (fun h84 => ?_) (fun h84 => ?_)
                · refine R_aload_n hB (j := 2) dX7_copy_99 rfl rfl ?_
                  refine R_iconst hB dX7_copy_100 ?_
                  refine R_cV1 hB (s_found _ (by omega)) mv_X7_237 rfl rfl (by decide) dX7_copy_101 rfl rfl (Nat.le_of_ble_eq_true rfl) (fun z101 σ1 h101 => ?_)
                  exact R_iret hB hE rfl dX7_copy_104 (Or.inr (Or.inr (Or.inr (Or.inl ⟨⟨hy, hz⟩, (by show σ 21 1 = 0 ∧ σ 20 1 = 0; omega), (by show σ 21 2 = σ 20 2; omega), (by show ¬ (hldP (σ 21) i n ∧ hldP (σ 20) j n); unfold hldP at *; omega), h101.1, h101.2, by rw [h101.2]; exact h.fnd (by omega)⟩))))
                · refine R_aload hB (j := 0) dX7_copy_87 rfl ?_
                  refine R_iload hB (j := 6) dX7_copy_89 rfl ?_
                  refine R_iload hB (j := 7) dX7_copy_91 rfl ?_
                  refine P_cS1 hB (s_holds_2 j n hj hn hqb.2.2) ms_X7_311 (by decide) dX7_copy_93 rfl rfl (Nat.le_of_ble_eq_true rfl) (fun z93 h93 => ?_)
                  refine R_if_ne hB 105 (by omega) dX7_copy_96 rfl (fun h96 => ?_) (fun h96 => ?_)
                  · refine R_aload hB (j := 1) dX7_copy_105 rfl ?_
                    refine R_getr hB (52) fl_X7_241 dX7_copy_107 rfl rfl ?_
                    refine R_iload_n hB (j := 4) dX7_copy_110 rfl rfl ?_
                    refine R_aload hB (j := 0) dX7_copy_111 rfl ?_
                    refine R_getr hB (51) fl_X7_241 dX7_copy_113 rfl rfl ?_
                    refine R_iload hB (j := 6) dX7_copy_116 rfl ?_
                    refine R_iload hB (j := 7) dX7_copy_118 rfl ?_
                    refine N_acopy hB rfl rfl (by decide) (by unfold hldP at *; omega) (by unfold hldP at *; omega) (by unfold hldP at *; omega) ac_link ac_native ac_static ac_init (by decide) dX7_copy_120 (Nat.le_of_ble_eq_true rfl) (fun σ1 e1 => ?_)
                    refine R_iconst hB dX7_copy_123 ?_
                    exact R_iret hB hE rfl dX7_copy_124 (Or.inr (Or.inr (Or.inr (Or.inr ⟨⟨hy, hz⟩, (by show σ 21 1 = 0 ∧ σ 20 1 = 0; omega), (by show σ 21 2 = σ 20 2; omega), (by show hldP (σ 21) i n ∧ hldP (σ 20) j n; unfold hldP at *; omega), rfl, e1, h.sh (fun x hi => by
                        simp only [List.mem_cons, List.not_mem_nil, or_false, not_or] at hi
                        rw [e1, cpM_row (by omega)]) (by rw [e1, cpM_row (by decide)]) (by rw [e1, cpM_row (by decide)]; exact h.2.2.2.2.2.2) (fun x hx => by rw [e1, cpM_row (by omega)]; exact h.2.2.2.2.2.1 x hx)⟩))))
                  · refine R_aload_n hB (j := 2) dX7_copy_99 rfl rfl ?_
                    refine R_iconst hB dX7_copy_100 ?_
                    refine R_cV1 hB (s_found _ (by omega)) mv_X7_237 rfl rfl (by decide) dX7_copy_101 rfl rfl (Nat.le_of_ble_eq_true rfl) (fun z101 σ1 h101 => ?_)
                    exact R_iret hB hE rfl dX7_copy_104 (Or.inr (Or.inr (Or.inr (Or.inl ⟨⟨hy, hz⟩, (by show σ 21 1 = 0 ∧ σ 20 1 = 0; omega), (by show σ 21 2 = σ 20 2; omega), (by show ¬ (hldP (σ 21) i n ∧ hldP (σ 20) j n); unfold hldP at *; omega), h101.1, h101.2, by rw [h101.2]; exact h.fnd (by omega)⟩))))
              · refine R_aload_n hB (j := 2) dX7_copy_70 rfl rfl ?_
                refine R_iconst hB dX7_copy_71 ?_
                refine R_cV1 hB (s_found _ (by omega)) mv_X7_237 rfl rfl (by decide) dX7_copy_72 rfl rfl (Nat.le_of_ble_eq_true rfl) (fun z72 σ1 h72 => ?_)
                exact R_iret hB hE rfl dX7_copy_75 (Or.inr (Or.inr (Or.inl ⟨⟨hy, hz⟩, (by show σ 21 1 = 0 ∧ σ 20 1 = 0; omega), (by show σ 21 2 ≠ σ 20 2; omega), h72.1, h72.2, by rw [h72.2]; exact h.fnd (by omega)⟩)))
            · refine R_aload_n hB (j := 2) dX7_copy_51 rfl rfl ?_
              refine R_iconst hB dX7_copy_52 ?_
              refine R_cV1 hB (s_found _ (by omega)) mv_X7_237 rfl rfl (by decide) dX7_copy_53 rfl rfl (Nat.le_of_ble_eq_true rfl) (fun z53 σ1 h53 => ?_)
              exact R_iret hB hE rfl dX7_copy_56 (Or.inr (Or.inl ⟨⟨hy, hz⟩, (by show σ 21 1 = 1 ∨ σ 20 1 = 1; omega), h53.1, h53.2, by rw [h53.2]; exact h.fnd (by omega)⟩))
        · show Run Θ Γ 20 [(0, .ref (Th.r Θ 0)), (1, .int (I 3)), (2, .int (I i)), (3, .int (I 3)), (4, .int (I j)), (5, .int (I n))] [.ref (Th.r Θ 0)] σ
          refine R_getr hB (24) fl_X7_41 dX7_copy_20 rfl rfl ?_
          refine R_iload_n hB (j := 1) dX7_copy_23 rfl rfl ?_
          refine R_aald hB (21) rfl (by decide) (by omega) rfl dX7_copy_24 ?_
          refine R_astore hB (L' := [_, _, _, _, _, _, _]) dX7_copy_25 (Nat.le_of_ble_eq_true rfl) rfl ?_
          refine R_aload_n hB (j := 1) dX7_copy_27 rfl rfl ?_
          refine R_getr hB (24) fl_X7_41 dX7_copy_28 rfl rfl ?_
          refine R_iload_n hB (j := 4) dX7_copy_31 rfl rfl ?_
          refine R_aald hB (21) rfl (by decide) (by omega) rfl dX7_copy_32 ?_
          refine R_astore hB (L' := [_, _, _, _, _, _, _, _]) dX7_copy_33 (Nat.le_of_ble_eq_true rfl) rfl ?_
          have hqa : (σ 21 1 = 0 ∨ σ 21 1 = 1) ∧ (0 ≤ σ 21 2 ∧ σ 21 2 < 3) ∧ (0 ≤ σ 21 3 ∧ σ 21 3 ≤ 60) := h.2.2.2.2.2.1 3 (by decide)
          have hqb : (σ 21 1 = 0 ∨ σ 21 1 = 1) ∧ (0 ≤ σ 21 2 ∧ σ 21 2 < 3) ∧ (0 ≤ σ 21 3 ∧ σ 21 3 ≤ 60) := h.2.2.2.2.2.1 3 (by decide)
          refine R_aload hB (j := 1) dX7_copy_35 rfl ?_
          refine R_getz hB fl_X7_233 dX7_copy_37 rfl ?_
          refine R_if_ne hB 51 (by omega) dX7_copy_40 rfl (fun h40 => ?_) (fun h40 => ?_)
          · refine R_aload_n hB (j := 2) dX7_copy_51 rfl rfl ?_
            refine R_iconst hB dX7_copy_52 ?_
            refine R_cV1 hB (s_found _ (by omega)) mv_X7_237 rfl rfl (by decide) dX7_copy_53 rfl rfl (Nat.le_of_ble_eq_true rfl) (fun z53 σ1 h53 => ?_)
            exact R_iret hB hE rfl dX7_copy_56 (Or.inr (Or.inl ⟨⟨hy, hz⟩, (by show σ 21 1 = 1 ∨ σ 21 1 = 1; omega), h53.1, h53.2, by rw [h53.2]; exact h.fnd (by omega)⟩))
          · refine R_aload hB (j := 0) dX7_copy_43 rfl ?_
            refine R_getz hB fl_X7_233 dX7_copy_45 rfl ?_
            refine R_if_eq hB 57 (by omega) dX7_copy_48 rfl (fun h48 => ?_) (fun h48 => ?_)
            · refine R_aload hB (j := 1) dX7_copy_57 rfl ?_
              refine R_geti hB fl_X7_300 dX7_copy_59 rfl ?_
              refine R_aload hB (j := 0) dX7_copy_62 rfl ?_
              refine R_geti hB fl_X7_300 dX7_copy_64 rfl ?_
              refine R_icmp_eq hB 76 (by omega) (by omega) dX7_copy_67 rfl (fun h67 => ?_) (fun h67 => ?_)
              · refine R_aload hB (j := 1) dX7_copy_76 rfl ?_
                refine R_iload_n hB (j := 4) dX7_copy_78 rfl rfl ?_
                refine R_iload hB (j := 7) dX7_copy_79 rfl ?_
                refine P_cS1 hB (s_holds_3 i n hi hn hqa.2.2) ms_X7_311 (by decide) dX7_copy_81 rfl rfl (Nat.le_of_ble_eq_true rfl) (fun z81 h81 => ?_)
                refine R_if_eq hB 99 (by omega) dX7_copy_84 rfl (fun h84 => ?_) (fun h84 => ?_)
                · refine R_aload_n hB (j := 2) dX7_copy_99 rfl rfl ?_
                  refine R_iconst hB dX7_copy_100 ?_
                  refine R_cV1 hB (s_found _ (by omega)) mv_X7_237 rfl rfl (by decide) dX7_copy_101 rfl rfl (Nat.le_of_ble_eq_true rfl) (fun z101 σ1 h101 => ?_)
                  exact R_iret hB hE rfl dX7_copy_104 (Or.inr (Or.inr (Or.inr (Or.inl ⟨⟨hy, hz⟩, (by show σ 21 1 = 0 ∧ σ 21 1 = 0; omega), (by show σ 21 2 = σ 21 2; omega), (by show ¬ (hldP (σ 21) i n ∧ hldP (σ 21) j n); unfold hldP at *; omega), h101.1, h101.2, by rw [h101.2]; exact h.fnd (by omega)⟩))))
                · refine R_aload hB (j := 0) dX7_copy_87 rfl ?_
                  refine R_iload hB (j := 6) dX7_copy_89 rfl ?_
                  refine R_iload hB (j := 7) dX7_copy_91 rfl ?_
                  refine P_cS1 hB (s_holds_3 j n hj hn hqb.2.2) ms_X7_311 (by decide) dX7_copy_93 rfl rfl (Nat.le_of_ble_eq_true rfl) (fun z93 h93 => ?_)
                  refine R_if_ne hB 105 (by omega) dX7_copy_96 rfl (fun h96 => ?_) (fun h96 => ?_)
                  · refine R_aload hB (j := 1) dX7_copy_105 rfl ?_
                    refine R_getr hB (52) fl_X7_241 dX7_copy_107 rfl rfl ?_
                    refine R_iload_n hB (j := 4) dX7_copy_110 rfl rfl ?_
                    refine R_aload hB (j := 0) dX7_copy_111 rfl ?_
                    refine R_getr hB (52) fl_X7_241 dX7_copy_113 rfl rfl ?_
                    refine R_iload hB (j := 6) dX7_copy_116 rfl ?_
                    refine R_iload hB (j := 7) dX7_copy_118 rfl ?_
                    refine N_acopy hB rfl rfl (by decide) (by unfold hldP at *; omega) (by unfold hldP at *; omega) (by unfold hldP at *; omega) ac_link ac_native ac_static ac_init (by decide) dX7_copy_120 (Nat.le_of_ble_eq_true rfl) (fun σ1 e1 => ?_)
                    refine R_iconst hB dX7_copy_123 ?_
                    exact R_iret hB hE rfl dX7_copy_124 (Or.inr (Or.inr (Or.inr (Or.inr ⟨⟨hy, hz⟩, (by show σ 21 1 = 0 ∧ σ 21 1 = 0; omega), (by show σ 21 2 = σ 21 2; omega), (by show hldP (σ 21) i n ∧ hldP (σ 21) j n; unfold hldP at *; omega), rfl, e1, h.sh (fun x hi => by
                        simp only [List.mem_cons, List.not_mem_nil, or_false, not_or] at hi
                        rw [e1, cpM_row (by omega)]) (by rw [e1, cpM_row (by decide)]) (by rw [e1, cpM_row (by decide)]; exact h.2.2.2.2.2.2) (fun x hx => by rw [e1, cpM_row (by omega)]; exact h.2.2.2.2.2.1 x hx)⟩))))
                  · refine R_aload_n hB (j := 2) dX7_copy_99 rfl rfl ?_
                    refine R_iconst hB dX7_copy_100 ?_
                    refine R_cV1 hB (s_found _ (by omega)) mv_X7_237 rfl rfl (by decide) dX7_copy_101 rfl rfl (Nat.le_of_ble_eq_true rfl) (fun z101 σ1 h101 => ?_)
                    exact R_iret hB hE rfl dX7_copy_104 (Or.inr (Or.inr (Or.inr (Or.inl ⟨⟨hy, hz⟩, (by show σ 21 1 = 0 ∧ σ 21 1 = 0; omega), (by show σ 21 2 = σ 21 2; omega), (by show ¬ (hldP (σ 21) i n ∧ hldP (σ 21) j n); unfold hldP at *; omega), h101.1, h101.2, by rw [h101.2]; exact h.fnd (by omega)⟩))))
              · refine R_aload_n hB (j := 2) dX7_copy_70 rfl rfl ?_
                refine R_iconst hB dX7_copy_71 ?_
                refine R_cV1 hB (s_found _ (by omega)) mv_X7_237 rfl rfl (by decide) dX7_copy_72 rfl rfl (Nat.le_of_ble_eq_true rfl) (fun z72 σ1 h72 => ?_)
                exact R_iret hB hE rfl dX7_copy_75 (Or.inr (Or.inr (Or.inl ⟨⟨hy, hz⟩, (by show σ 21 1 = 0 ∧ σ 21 1 = 0; omega), (by show σ 21 2 ≠ σ 21 2; omega), h72.1, h72.2, by rw [h72.2]; exact h.fnd (by omega)⟩)))
            · refine R_aload_n hB (j := 2) dX7_copy_51 rfl rfl ?_
              refine R_iconst hB dX7_copy_52 ?_
              refine R_cV1 hB (s_found _ (by omega)) mv_X7_237 rfl rfl (by decide) dX7_copy_53 rfl rfl (Nat.le_of_ble_eq_true rfl) (fun z53 σ1 h53 => ?_)
              exact R_iret hB hE rfl dX7_copy_56 (Or.inr (Or.inl ⟨⟨hy, hz⟩, (by show σ 21 1 = 1 ∨ σ 21 1 = 1; omega), h53.1, h53.2, by rw [h53.2]; exact h.fnd (by omega)⟩))
    · have hno : ¬ ((0 ≤ s ∧ s < 4) ∧ (0 ≤ t ∧ t < 4)) := by split at h10 <;> omega
      refine R_bipush hB dX7_copy_16 rfl ?_
      exact R_iret hB hE rfl dX7_copy_18 (Or.inl ⟨hno, rfl, rfl⟩)
