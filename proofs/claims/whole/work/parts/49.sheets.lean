theorem rng_of {a b x : Int} (h : a ≤ x ∧ x ≤ b) (ha : -2147483648 ≤ a) (hb : b < 2147483648) : rng x := by omega

theorem s_sheet {Θ : Th} {σ : Mem} (s f n : Int) (hs : rng s) (hfr : rng f) (hn : rng n) (h : InvC σ) : Spc Θ M_X7_sheet 1 [.ref (Th.r Θ 0), .int (I s), .int (I f), .int (I n)] σ (fun r σ' => (¬ ((0 ≤ s ∧ s < 4) ∧ (0 ≤ f ∧ f < 3) ∧ n ≤ 60) ∧ r = -2 ∧ σ' = σ) ∨ (((0 ≤ s ∧ s < 4) ∧ (0 ≤ f ∧ f < 3) ∧ n ≤ 60) ∧ n < 0 ∧ r = -10 - 5 ∧ σ' = up σ 0 7 5 ∧ InvC σ') ∨ (((0 ≤ s ∧ s < 4) ∧ (0 ≤ f ∧ f < 3) ∧ n ≤ 60) ∧ 0 ≤ n ∧ r = n ∧ σ' = fillM (up (up (up σ (18 + s.toNat) 1 0) (18 + s.toNat) 2 f) (18 + s.toNat) 3 n) (49 + s.toNat) 60 0 ∧ InvC σ')) := by
  refine Spc_of (by decide +kernel) (Nat.le_of_ble_eq_true rfl) (fun Γ hB hE => ?_)
  show Run Θ Γ 0 [(0, .ref (Th.r Θ 0)), (1, .int (I s)), (2, .int (I f)), (3, .int (I n))] [] σ
  refine R_iload_n hB (j := 1) dX7_sheet_0 rfl rfl ?_
  refine R_iconst hB dX7_sheet_1 ?_
  refine P_cS1 hB (s_within _ _ (by omega) (by omega)) ms_X7_89 (by decide) dX7_sheet_2 rfl rfl (Nat.le_of_ble_eq_true rfl) (fun z2 h2 => ?_)
  refine R_if_eq hB 22 (by rw [h2]; split <;> omega) dX7_sheet_5 rfl (fun h5 => ?_) (fun h5 => ?_)
  · have hno : ¬ ((0 ≤ s ∧ s < 4) ∧ (0 ≤ f ∧ f < 3) ∧ n ≤ 60) := by split at h2 <;> omega
    refine R_bipush hB dX7_sheet_22 rfl ?_
    exact R_iret hB hE rfl dX7_sheet_24 (Or.inl ⟨hno, rfl, rfl⟩)
  · have hy : 0 ≤ s ∧ s < 4 := by split at h2 <;> omega
    refine R_iload_n hB (j := 2) dX7_sheet_8 rfl rfl ?_
    refine R_iconst hB dX7_sheet_9 ?_
    refine P_cS1 hB (s_within _ _ (by omega) (by omega)) ms_X7_89 (by decide) dX7_sheet_10 rfl rfl (Nat.le_of_ble_eq_true rfl) (fun z10 h10 => ?_)
    refine R_if_eq hB 22 (by rw [h10]; split <;> omega) dX7_sheet_13 rfl (fun h13 => ?_) (fun h13 => ?_)
    · have hno : ¬ ((0 ≤ s ∧ s < 4) ∧ (0 ≤ f ∧ f < 3) ∧ n ≤ 60) := by split at h10 <;> omega
      refine R_bipush hB dX7_sheet_22 rfl ?_
      exact R_iret hB hE rfl dX7_sheet_24 (Or.inl ⟨hno, rfl, rfl⟩)
    · have hf : 0 ≤ f ∧ f < 3 := by split at h10 <;> omega
      refine R_iload_n hB (j := 3) dX7_sheet_16 rfl rfl ?_
      refine R_bipush hB dX7_sheet_17 rfl ?_
      refine R_icmp_le hB 25 (by omega) (by omega) dX7_sheet_19 rfl (fun h19 => ?_) (fun h19 => ?_)
      · refine R_iload_n hB (j := 3) dX7_sheet_25 rfl rfl ?_
        refine R_if_ge hB 35 (by omega) dX7_sheet_26 rfl (fun h26 => ?_) (fun h26 => ?_)
        · rcases (show s = 0 ∨ s = 1 ∨ s = 2 ∨ s = 3 by omega) with rfl | rfl | rfl | rfl
          · show Run Θ Γ 35 [(0, .ref (Th.r Θ 0)), (1, .int (I 0)), (2, .int (I f)), (3, .int (I n))] [] σ
            refine R_aload_n hB (j := 0) dX7_sheet_35 rfl rfl ?_
            refine R_getr hB (24) fl_X7_41 dX7_sheet_36 rfl rfl ?_
            refine R_iload_n hB (j := 1) dX7_sheet_39 rfl rfl ?_
            refine R_aald hB (18) rfl (by decide) (by omega) rfl dX7_sheet_40 ?_
            refine R_iload_n hB (j := 2) dX7_sheet_41 rfl rfl ?_
            refine R_iload_n hB (j := 3) dX7_sheet_42 rfl rfl ?_
            refine R_cV0 hB (s_renew_0 f n hf (by omega)) mv_X7_297 rfl rfl (by decide) dX7_sheet_43 rfl rfl (Nat.le_of_ble_eq_true rfl) (fun σ1 h43 => ?_)
            refine R_iload_n hB (j := 3) dX7_sheet_46 rfl rfl ?_
            exact R_iret hB hE rfl dX7_sheet_47 (Or.inr (Or.inr ⟨⟨hy, hf, h19⟩, h26, rfl, h43, h.sh (fun i hi => by
                simp only [List.mem_cons, List.not_mem_nil, or_false, not_or] at hi
                rw [h43, fill_row (by omega), up_row (by omega), up_row (by omega), up_row (by omega)]) (by rw [h43, fill_row (by decide), up_row (by decide), up_row (by decide), up_row (by decide)]) (by rw [h43, fill_row (by decide), up_row (by decide), up_row (by decide), up_row (by decide)]; exact h.2.2.2.2.2.2) (fun x hx => by
                have hq := h.2.2.2.2.2.1 x hx
                by_cases c : 18 + x = 18
                · rw [c, h43, fill_row (by decide)]
                  simp [up]
                  omega
                · rw [h43, fill_row (by omega), up_row c, up_row c, up_row c]; exact hq)⟩))
          · show Run Θ Γ 35 [(0, .ref (Th.r Θ 0)), (1, .int (I 1)), (2, .int (I f)), (3, .int (I n))] [] σ
            refine R_aload_n hB (j := 0) dX7_sheet_35 rfl rfl ?_
            refine R_getr hB (24) fl_X7_41 dX7_sheet_36 rfl rfl ?_
            refine R_iload_n hB (j := 1) dX7_sheet_39 rfl rfl ?_
            refine R_aald hB (19) rfl (by decide) (by omega) rfl dX7_sheet_40 ?_
            refine R_iload_n hB (j := 2) dX7_sheet_41 rfl rfl ?_
            refine R_iload_n hB (j := 3) dX7_sheet_42 rfl rfl ?_
            refine R_cV0 hB (s_renew_1 f n hf (by omega)) mv_X7_297 rfl rfl (by decide) dX7_sheet_43 rfl rfl (Nat.le_of_ble_eq_true rfl) (fun σ1 h43 => ?_)
            refine R_iload_n hB (j := 3) dX7_sheet_46 rfl rfl ?_
            exact R_iret hB hE rfl dX7_sheet_47 (Or.inr (Or.inr ⟨⟨hy, hf, h19⟩, h26, rfl, h43, h.sh (fun i hi => by
                simp only [List.mem_cons, List.not_mem_nil, or_false, not_or] at hi
                rw [h43, fill_row (by omega), up_row (by omega), up_row (by omega), up_row (by omega)]) (by rw [h43, fill_row (by decide), up_row (by decide), up_row (by decide), up_row (by decide)]) (by rw [h43, fill_row (by decide), up_row (by decide), up_row (by decide), up_row (by decide)]; exact h.2.2.2.2.2.2) (fun x hx => by
                have hq := h.2.2.2.2.2.1 x hx
                by_cases c : 18 + x = 19
                · rw [c, h43, fill_row (by decide)]
                  simp [up]
                  omega
                · rw [h43, fill_row (by omega), up_row c, up_row c, up_row c]; exact hq)⟩))
          · show Run Θ Γ 35 [(0, .ref (Th.r Θ 0)), (1, .int (I 2)), (2, .int (I f)), (3, .int (I n))] [] σ
            refine R_aload_n hB (j := 0) dX7_sheet_35 rfl rfl ?_
            refine R_getr hB (24) fl_X7_41 dX7_sheet_36 rfl rfl ?_
            refine R_iload_n hB (j := 1) dX7_sheet_39 rfl rfl ?_
            refine R_aald hB (20) rfl (by decide) (by omega) rfl dX7_sheet_40 ?_
            refine R_iload_n hB (j := 2) dX7_sheet_41 rfl rfl ?_
            refine R_iload_n hB (j := 3) dX7_sheet_42 rfl rfl ?_
            refine R_cV0 hB (s_renew_2 f n hf (by omega)) mv_X7_297 rfl rfl (by decide) dX7_sheet_43 rfl rfl (Nat.le_of_ble_eq_true rfl) (fun σ1 h43 => ?_)
            refine R_iload_n hB (j := 3) dX7_sheet_46 rfl rfl ?_
            exact R_iret hB hE rfl dX7_sheet_47 (Or.inr (Or.inr ⟨⟨hy, hf, h19⟩, h26, rfl, h43, h.sh (fun i hi => by
                simp only [List.mem_cons, List.not_mem_nil, or_false, not_or] at hi
                rw [h43, fill_row (by omega), up_row (by omega), up_row (by omega), up_row (by omega)]) (by rw [h43, fill_row (by decide), up_row (by decide), up_row (by decide), up_row (by decide)]) (by rw [h43, fill_row (by decide), up_row (by decide), up_row (by decide), up_row (by decide)]; exact h.2.2.2.2.2.2) (fun x hx => by
                have hq := h.2.2.2.2.2.1 x hx
                by_cases c : 18 + x = 20
                · rw [c, h43, fill_row (by decide)]
                  simp [up]
                  omega
                · rw [h43, fill_row (by omega), up_row c, up_row c, up_row c]; exact hq)⟩))
          · show Run Θ Γ 35 [(0, .ref (Th.r Θ 0)), (1, .int (I 3)), (2, .int (I f)), (3, .int (I n))] [] σ
            refine R_aload_n hB (j := 0) dX7_sheet_35 rfl rfl ?_
            refine R_getr hB (24) fl_X7_41 dX7_sheet_36 rfl rfl ?_
            refine R_iload_n hB (j := 1) dX7_sheet_39 rfl rfl ?_
            refine R_aald hB (21) rfl (by decide) (by omega) rfl dX7_sheet_40 ?_
            refine R_iload_n hB (j := 2) dX7_sheet_41 rfl rfl ?_
            refine R_iload_n hB (j := 3) dX7_sheet_42 rfl rfl ?_
            refine R_cV0 hB (s_renew_3 f n hf (by omega)) mv_X7_297 rfl rfl (by decide) dX7_sheet_43 rfl rfl (Nat.le_of_ble_eq_true rfl) (fun σ1 h43 => ?_)
            refine R_iload_n hB (j := 3) dX7_sheet_46 rfl rfl ?_
            exact R_iret hB hE rfl dX7_sheet_47 (Or.inr (Or.inr ⟨⟨hy, hf, h19⟩, h26, rfl, h43, h.sh (fun i hi => by
                simp only [List.mem_cons, List.not_mem_nil, or_false, not_or] at hi
                rw [h43, fill_row (by omega), up_row (by omega), up_row (by omega), up_row (by omega)]) (by rw [h43, fill_row (by decide), up_row (by decide), up_row (by decide), up_row (by decide)]) (by rw [h43, fill_row (by decide), up_row (by decide), up_row (by decide), up_row (by decide)]; exact h.2.2.2.2.2.2) (fun x hx => by
                have hq := h.2.2.2.2.2.1 x hx
                by_cases c : 18 + x = 21
                · rw [c, h43, fill_row (by decide)]
                  simp [up]
                  omega
                · rw [h43, fill_row (by omega), up_row c, up_row c, up_row c]; exact hq)⟩))
        · refine R_aload_n hB (j := 0) dX7_sheet_29 rfl rfl ?_
          refine R_iconst hB dX7_sheet_30 ?_
          refine R_cV1 hB (s_found _ (by omega)) mv_X7_237 rfl rfl (by decide) dX7_sheet_31 rfl rfl (Nat.le_of_ble_eq_true rfl) (fun z31 σ1 h31 => ?_)
          exact R_iret hB hE rfl dX7_sheet_34 (Or.inr (Or.inl ⟨⟨hy, hf, h19⟩, by omega, h31.1, h31.2, by rw [h31.2]; exact h.fnd (by omega)⟩))
      · have hno : ¬ ((0 ≤ s ∧ s < 4) ∧ (0 ≤ f ∧ f < 3) ∧ n ≤ 60) := by omega
        refine R_bipush hB dX7_sheet_22 rfl ?_
        exact R_iret hB hE rfl dX7_sheet_24 (Or.inl ⟨hno, rfl, rfl⟩)

theorem s_lose {Θ : Th} {σ : Mem} (s : Int) (hs : rng s) (h : InvC σ) : Spc Θ M_X7_lose 1 [.ref (Th.r Θ 0), .int (I s)] σ (fun r σ' => (¬ (0 ≤ s ∧ s < 4) ∧ r = -2 ∧ σ' = σ) ∨ ((0 ≤ s ∧ s < 4) ∧ σ (18 + s.toNat) 1 = 1 ∧ r = -10 - 1 ∧ σ' = up σ 0 7 1 ∧ InvC σ') ∨ ((0 ≤ s ∧ s < 4) ∧ σ (18 + s.toNat) 1 = 0 ∧ r = σ (18 + s.toNat) 3 ∧ σ' = up σ (18 + s.toNat) 1 1 ∧ InvC σ')) := by
  refine Spc_of (by decide +kernel) (Nat.le_of_ble_eq_true rfl) (fun Γ hB hE => ?_)
  show Run Θ Γ 0 [(0, .ref (Th.r Θ 0)), (1, .int (I s))] [] σ
  refine R_iload_n hB (j := 1) dX7_lose_0 rfl rfl ?_
  refine R_iconst hB dX7_lose_1 ?_
  refine P_cS1 hB (s_within _ _ (by omega) (by omega)) ms_X7_89 (by decide) dX7_lose_2 rfl rfl (Nat.le_of_ble_eq_true rfl) (fun z2 h2 => ?_)
  refine R_if_ne hB 11 (by rw [h2]; split <;> omega) dX7_lose_5 rfl (fun h5 => ?_) (fun h5 => ?_)
  · have hy : 0 ≤ s ∧ s < 4 := by split at h2 <;> omega
    rcases (show s = 0 ∨ s = 1 ∨ s = 2 ∨ s = 3 by omega) with rfl | rfl | rfl | rfl
    · show Run Θ Γ 11 [(0, .ref (Th.r Θ 0)), (1, .int (I 0))] [] σ
      refine R_aload_n hB (j := 0) dX7_lose_11 rfl rfl ?_
      refine R_getr hB (24) fl_X7_41 dX7_lose_12 rfl rfl ?_
      refine R_iload_n hB (j := 1) dX7_lose_15 rfl rfl ?_
      refine R_aald hB (18) rfl (by decide) (by omega) rfl dX7_lose_16 ?_
      refine R_getz hB fl_X7_233 dX7_lose_17 rfl ?_
      have hq := h.2.2.2.2.2.1 0 (by decide)
      have hq : (σ 18 1 = 0 ∨ σ 18 1 = 1) ∧ (0 ≤ σ 18 2 ∧ σ 18 2 < 3) ∧ (0 ≤ σ 18 3 ∧ σ 18 3 ≤ 60) := hq
      refine R_if_eq hB 29 (by omega) dX7_lose_20 rfl (fun h20 => ?_) (fun h20 => ?_)
      · refine R_aload_n hB (j := 0) dX7_lose_29 rfl rfl ?_
        refine R_getr hB (24) fl_X7_41 dX7_lose_30 rfl rfl ?_
        refine R_iload_n hB (j := 1) dX7_lose_33 rfl rfl ?_
        refine R_aald hB (18) rfl (by decide) (by omega) rfl dX7_lose_34 ?_
        refine R_iconst hB dX7_lose_35 ?_
        refine N_putz hB fp_X7_233 dX7_lose_36 rfl (by omega) (fun σ1 e1 => ?_)
        refine R_aload_n hB (j := 0) dX7_lose_39 rfl rfl ?_
        refine R_getr hB (24) fl_X7_41 dX7_lose_40 rfl rfl ?_
        refine R_iload_n hB (j := 1) dX7_lose_43 rfl rfl ?_
        refine R_aald hB (18) rfl (by decide) (by omega) rfl dX7_lose_44 ?_
        refine R_geti hB fl_X7_240 dX7_lose_45 rfl ?_
        exact R_iret hB hE rfl dX7_lose_48 (Or.inr (Or.inr ⟨hy, h20, (by rw [e1, up_n (by decide)]; rfl), e1, h.sh (fun i hi => by
            simp only [List.mem_cons, List.not_mem_nil, or_false, not_or] at hi
            rw [e1, up_row (by omega)]) (by rw [e1, up_row (by decide)]) (by rw [e1, up_row (by decide)]; exact h.2.2.2.2.2.2) (fun x hx => by
            have hq := h.2.2.2.2.2.1 x hx
            by_cases c : 18 + x = 18
            · rw [c] at hq ⊢
              rw [e1]
              simp [up]
              omega
            · rw [e1, up_row c]; exact hq)⟩))
      · refine R_aload_n hB (j := 0) dX7_lose_23 rfl rfl ?_
        refine R_iconst hB dX7_lose_24 ?_
        refine R_cV1 hB (s_found _ (by omega)) mv_X7_237 rfl rfl (by decide) dX7_lose_25 rfl rfl (Nat.le_of_ble_eq_true rfl) (fun z25 σ1 h25 => ?_)
        exact R_iret hB hE rfl dX7_lose_28 (Or.inr (Or.inl ⟨hy, (by show σ 18 1 = 1; omega), h25.1, h25.2, by rw [h25.2]; exact h.fnd (by omega)⟩))
    · show Run Θ Γ 11 [(0, .ref (Th.r Θ 0)), (1, .int (I 1))] [] σ
      refine R_aload_n hB (j := 0) dX7_lose_11 rfl rfl ?_
      refine R_getr hB (24) fl_X7_41 dX7_lose_12 rfl rfl ?_
      refine R_iload_n hB (j := 1) dX7_lose_15 rfl rfl ?_
      refine R_aald hB (19) rfl (by decide) (by omega) rfl dX7_lose_16 ?_
      refine R_getz hB fl_X7_233 dX7_lose_17 rfl ?_
      have hq := h.2.2.2.2.2.1 1 (by decide)
      have hq : (σ 19 1 = 0 ∨ σ 19 1 = 1) ∧ (0 ≤ σ 19 2 ∧ σ 19 2 < 3) ∧ (0 ≤ σ 19 3 ∧ σ 19 3 ≤ 60) := hq
      refine R_if_eq hB 29 (by omega) dX7_lose_20 rfl (fun h20 => ?_) (fun h20 => ?_)
      · refine R_aload_n hB (j := 0) dX7_lose_29 rfl rfl ?_
        refine R_getr hB (24) fl_X7_41 dX7_lose_30 rfl rfl ?_
        refine R_iload_n hB (j := 1) dX7_lose_33 rfl rfl ?_
        refine R_aald hB (19) rfl (by decide) (by omega) rfl dX7_lose_34 ?_
        refine R_iconst hB dX7_lose_35 ?_
        refine N_putz hB fp_X7_233 dX7_lose_36 rfl (by omega) (fun σ1 e1 => ?_)
        refine R_aload_n hB (j := 0) dX7_lose_39 rfl rfl ?_
        refine R_getr hB (24) fl_X7_41 dX7_lose_40 rfl rfl ?_
        refine R_iload_n hB (j := 1) dX7_lose_43 rfl rfl ?_
        refine R_aald hB (19) rfl (by decide) (by omega) rfl dX7_lose_44 ?_
        refine R_geti hB fl_X7_240 dX7_lose_45 rfl ?_
        exact R_iret hB hE rfl dX7_lose_48 (Or.inr (Or.inr ⟨hy, h20, (by rw [e1, up_n (by decide)]; rfl), e1, h.sh (fun i hi => by
            simp only [List.mem_cons, List.not_mem_nil, or_false, not_or] at hi
            rw [e1, up_row (by omega)]) (by rw [e1, up_row (by decide)]) (by rw [e1, up_row (by decide)]; exact h.2.2.2.2.2.2) (fun x hx => by
            have hq := h.2.2.2.2.2.1 x hx
            by_cases c : 18 + x = 19
            · rw [c] at hq ⊢
              rw [e1]
              simp [up]
              omega
            · rw [e1, up_row c]; exact hq)⟩))
      · refine R_aload_n hB (j := 0) dX7_lose_23 rfl rfl ?_
        refine R_iconst hB dX7_lose_24 ?_
        refine R_cV1 hB (s_found _ (by omega)) mv_X7_237 rfl rfl (by decide) dX7_lose_25 rfl rfl (Nat.le_of_ble_eq_true rfl) (fun z25 σ1 h25 => ?_)
        exact R_iret hB hE rfl dX7_lose_28 (Or.inr (Or.inl ⟨hy, (by show σ 19 1 = 1; omega), h25.1, h25.2, by rw [h25.2]; exact h.fnd (by omega)⟩))
    · show Run Θ Γ 11 [(0, .ref (Th.r Θ 0)), (1, .int (I 2))] [] σ
      refine R_aload_n hB (j := 0) dX7_lose_11 rfl rfl ?_
      refine R_getr hB (24) fl_X7_41 dX7_lose_12 rfl rfl ?_
      refine R_iload_n hB (j := 1) dX7_lose_15 rfl rfl ?_
      refine R_aald hB (20) rfl (by decide) (by omega) rfl dX7_lose_16 ?_
      refine R_getz hB fl_X7_233 dX7_lose_17 rfl ?_
      have hq := h.2.2.2.2.2.1 2 (by decide)
      have hq : (σ 20 1 = 0 ∨ σ 20 1 = 1) ∧ (0 ≤ σ 20 2 ∧ σ 20 2 < 3) ∧ (0 ≤ σ 20 3 ∧ σ 20 3 ≤ 60) := hq
      refine R_if_eq hB 29 (by omega) dX7_lose_20 rfl (fun h20 => ?_) (fun h20 => ?_)
      · refine R_aload_n hB (j := 0) dX7_lose_29 rfl rfl ?_
        refine R_getr hB (24) fl_X7_41 dX7_lose_30 rfl rfl ?_
        refine R_iload_n hB (j := 1) dX7_lose_33 rfl rfl ?_
        refine R_aald hB (20) rfl (by decide) (by omega) rfl dX7_lose_34 ?_
        refine R_iconst hB dX7_lose_35 ?_
        refine N_putz hB fp_X7_233 dX7_lose_36 rfl (by omega) (fun σ1 e1 => ?_)
        refine R_aload_n hB (j := 0) dX7_lose_39 rfl rfl ?_
        refine R_getr hB (24) fl_X7_41 dX7_lose_40 rfl rfl ?_
        refine R_iload_n hB (j := 1) dX7_lose_43 rfl rfl ?_
        refine R_aald hB (20) rfl (by decide) (by omega) rfl dX7_lose_44 ?_
        refine R_geti hB fl_X7_240 dX7_lose_45 rfl ?_
        exact R_iret hB hE rfl dX7_lose_48 (Or.inr (Or.inr ⟨hy, h20, (by rw [e1, up_n (by decide)]; rfl), e1, h.sh (fun i hi => by
            simp only [List.mem_cons, List.not_mem_nil, or_false, not_or] at hi
            rw [e1, up_row (by omega)]) (by rw [e1, up_row (by decide)]) (by rw [e1, up_row (by decide)]; exact h.2.2.2.2.2.2) (fun x hx => by
            have hq := h.2.2.2.2.2.1 x hx
            by_cases c : 18 + x = 20
            · rw [c] at hq ⊢
              rw [e1]
              simp [up]
              omega
            · rw [e1, up_row c]; exact hq)⟩))
      · refine R_aload_n hB (j := 0) dX7_lose_23 rfl rfl ?_
        refine R_iconst hB dX7_lose_24 ?_
        refine R_cV1 hB (s_found _ (by omega)) mv_X7_237 rfl rfl (by decide) dX7_lose_25 rfl rfl (Nat.le_of_ble_eq_true rfl) (fun z25 σ1 h25 => ?_)
        exact R_iret hB hE rfl dX7_lose_28 (Or.inr (Or.inl ⟨hy, (by show σ 20 1 = 1; omega), h25.1, h25.2, by rw [h25.2]; exact h.fnd (by omega)⟩))
    · show Run Θ Γ 11 [(0, .ref (Th.r Θ 0)), (1, .int (I 3))] [] σ
      refine R_aload_n hB (j := 0) dX7_lose_11 rfl rfl ?_
      refine R_getr hB (24) fl_X7_41 dX7_lose_12 rfl rfl ?_
      refine R_iload_n hB (j := 1) dX7_lose_15 rfl rfl ?_
      refine R_aald hB (21) rfl (by decide) (by omega) rfl dX7_lose_16 ?_
      refine R_getz hB fl_X7_233 dX7_lose_17 rfl ?_
      have hq := h.2.2.2.2.2.1 3 (by decide)
      have hq : (σ 21 1 = 0 ∨ σ 21 1 = 1) ∧ (0 ≤ σ 21 2 ∧ σ 21 2 < 3) ∧ (0 ≤ σ 21 3 ∧ σ 21 3 ≤ 60) := hq
      refine R_if_eq hB 29 (by omega) dX7_lose_20 rfl (fun h20 => ?_) (fun h20 => ?_)
      · refine R_aload_n hB (j := 0) dX7_lose_29 rfl rfl ?_
        refine R_getr hB (24) fl_X7_41 dX7_lose_30 rfl rfl ?_
        refine R_iload_n hB (j := 1) dX7_lose_33 rfl rfl ?_
        refine R_aald hB (21) rfl (by decide) (by omega) rfl dX7_lose_34 ?_
        refine R_iconst hB dX7_lose_35 ?_
        refine N_putz hB fp_X7_233 dX7_lose_36 rfl (by omega) (fun σ1 e1 => ?_)
        refine R_aload_n hB (j := 0) dX7_lose_39 rfl rfl ?_
        refine R_getr hB (24) fl_X7_41 dX7_lose_40 rfl rfl ?_
        refine R_iload_n hB (j := 1) dX7_lose_43 rfl rfl ?_
        refine R_aald hB (21) rfl (by decide) (by omega) rfl dX7_lose_44 ?_
        refine R_geti hB fl_X7_240 dX7_lose_45 rfl ?_
        exact R_iret hB hE rfl dX7_lose_48 (Or.inr (Or.inr ⟨hy, h20, (by rw [e1, up_n (by decide)]; rfl), e1, h.sh (fun i hi => by
            simp only [List.mem_cons, List.not_mem_nil, or_false, not_or] at hi
            rw [e1, up_row (by omega)]) (by rw [e1, up_row (by decide)]) (by rw [e1, up_row (by decide)]; exact h.2.2.2.2.2.2) (fun x hx => by
            have hq := h.2.2.2.2.2.1 x hx
            by_cases c : 18 + x = 21
            · rw [c] at hq ⊢
              rw [e1]
              simp [up]
              omega
            · rw [e1, up_row c]; exact hq)⟩))
      · refine R_aload_n hB (j := 0) dX7_lose_23 rfl rfl ?_
        refine R_iconst hB dX7_lose_24 ?_
        refine R_cV1 hB (s_found _ (by omega)) mv_X7_237 rfl rfl (by decide) dX7_lose_25 rfl rfl (Nat.le_of_ble_eq_true rfl) (fun z25 σ1 h25 => ?_)
        exact R_iret hB hE rfl dX7_lose_28 (Or.inr (Or.inl ⟨hy, (by show σ 21 1 = 1; omega), h25.1, h25.2, by rw [h25.2]; exact h.fnd (by omega)⟩))
  · have hno : ¬ (0 ≤ s ∧ s < 4) := by split at h2 <;> omega
    refine R_bipush hB dX7_lose_8 rfl ?_
    exact R_iret hB hE rfl dX7_lose_10 (Or.inl ⟨hno, rfl, rfl⟩)

theorem s_findingAt_0 {Θ : Th} {σ : Mem} (f i : Int) (hf : rng f) (hi : rng i) (hq : (σ 18 1 = 0 ∨ σ 18 1 = 1) ∧ (0 ≤ σ 18 2 ∧ σ 18 2 < 3) ∧ (0 ≤ σ 18 3 ∧ σ 18 3 ≤ 60)) : Spc Θ M_X7_findingAt 1 [.ref (Th.r Θ 0), .ref (Th.r Θ 18), .int (I f), .int (I i)] σ (Pu σ (fun z => z = fnd (σ 18) f i)) := by
  refine Spc_of (by decide +kernel) (Nat.le_of_ble_eq_true rfl) (fun Γ hB hE => ?_)
  show Run Θ Γ 0 [(0, .ref (Th.r Θ 0)), (1, .ref (Th.r Θ 18)), (2, .int (I f)), (3, .int (I i))] [] σ
  refine R_aload_n hB (j := 1) dX7_findingAt_0 rfl rfl ?_
  refine R_getz hB fl_X7_233 dX7_findingAt_1 rfl ?_
  refine R_if_eq hB 9 (by omega) dX7_findingAt_4 rfl (fun h4 => ?_) (fun h4 => ?_)
  · refine R_aload_n hB (j := 1) dX7_findingAt_9 rfl rfl ?_
    refine R_geti hB fl_X7_300 dX7_findingAt_10 rfl ?_
    refine R_iload_n hB (j := 2) dX7_findingAt_13 rfl rfl ?_
    refine R_icmp_eq hB 19 (by omega) (by omega) dX7_findingAt_14 rfl (fun h14 => ?_) (fun h14 => ?_)
    · refine R_iload_n hB (j := 3) dX7_findingAt_19 rfl rfl ?_
      refine R_aload_n hB (j := 1) dX7_findingAt_20 rfl rfl ?_
      refine R_geti hB fl_X7_240 dX7_findingAt_21 rfl ?_
      refine P_cS1 hB (s_within _ _ (by omega) (by omega)) ms_X7_89 (by decide) dX7_findingAt_24 rfl rfl (Nat.le_of_ble_eq_true rfl) (fun z24 h24 => ?_)
      refine R_if_eq hB 34 (by rw [h24]; split <;> omega) dX7_findingAt_27 rfl (fun h27 => ?_) (fun h27 => ?_)
      · refine R_iconst hB dX7_findingAt_34 ?_
        exact R_iret hB hE rfl dX7_findingAt_35 (⟨rfl, by unfold fnd; rw [if_neg (by omega), if_neg (by omega)]; split at h24 <;> (first | (exfalso; omega) | rw [if_pos (by omega)] | rw [if_neg (by omega)])⟩)
      · refine R_iconst hB dX7_findingAt_30 ?_
        refine R_goto hB 35 dX7_findingAt_31 rfl ?_
        exact R_iret hB hE rfl dX7_findingAt_35 (⟨rfl, by unfold fnd; rw [if_neg (by omega), if_neg (by omega)]; split at h24 <;> (first | (exfalso; omega) | rw [if_pos (by omega)] | rw [if_neg (by omega)])⟩)
    · refine R_iconst hB dX7_findingAt_17 ?_
      exact R_iret hB hE rfl dX7_findingAt_18 (⟨rfl, by unfold fnd; rw [if_neg (by omega), if_pos h14]⟩)
  · refine R_iconst hB dX7_findingAt_7 ?_
    exact R_iret hB hE rfl dX7_findingAt_8 (⟨rfl, by unfold fnd; rw [if_pos (by omega)]⟩)

theorem s_holds_0 {Θ : Th} {σ : Mem} (i n : Int) (hi : rng i) (hn : rng n) (hq : 0 ≤ σ 18 3 ∧ σ 18 3 ≤ 60) : Spc Θ M_X7_holds 1 [.ref (Th.r Θ 18), .int (I i), .int (I n)] σ (Pu σ (fun z => (z = 1 ∧ hldP (σ 18) i n) ∨ (z = 0 ∧ ¬ hldP (σ 18) i n))) := by
  refine Spc_of (by decide +kernel) (Nat.le_of_ble_eq_true rfl) (fun Γ hB hE => ?_)
  show Run Θ Γ 0 [(0, .ref (Th.r Θ 18)), (1, .int (I i)), (2, .int (I n))] [] σ
  refine R_iload_n hB (j := 1) dX7_holds_0 rfl rfl ?_
  refine R_if_lt hB 30 (by omega) dX7_holds_1 rfl (fun h1 => ?_) (fun h1 => ?_)
  · refine R_iconst hB dX7_holds_30 ?_
    exact R_zret hB hE rfl (rfl) dX7_holds_31 (⟨rfl, by unfold hldP; omega⟩)
  · refine R_iload_n hB (j := 2) dX7_holds_4 rfl rfl ?_
    refine R_if_lt hB 30 (by omega) dX7_holds_5 rfl (fun h5 => ?_) (fun h5 => ?_)
    · refine R_iconst hB dX7_holds_30 ?_
      exact R_zret hB hE rfl (rfl) dX7_holds_31 (⟨rfl, by unfold hldP; omega⟩)
    · refine R_iload_n hB (j := 1) dX7_holds_8 rfl rfl ?_
      refine R_aload_n hB (j := 0) dX7_holds_9 rfl rfl ?_
      refine R_geti hB fl_X7_240 dX7_holds_10 rfl ?_
      refine R_icmp_gt hB 30 (by omega) (by omega) dX7_holds_13 rfl (fun h13 => ?_) (fun h13 => ?_)
      · refine R_iconst hB dX7_holds_30 ?_
        exact R_zret hB hE rfl (rfl) dX7_holds_31 (⟨rfl, by unfold hldP; omega⟩)
      · refine R_iload_n hB (j := 2) dX7_holds_16 rfl rfl ?_
        refine R_aload_n hB (j := 0) dX7_holds_17 rfl rfl ?_
        refine R_geti hB fl_X7_240 dX7_holds_18 rfl ?_
        refine R_iload_n hB (j := 1) dX7_holds_21 rfl rfl ?_
        refine R_isub hB dX7_holds_22 ?_
        refine R_icmp_gt hB 30 (by omega) (by omega) dX7_holds_23 rfl (fun h23 => ?_) (fun h23 => ?_)
        · refine R_iconst hB dX7_holds_30 ?_
          exact R_zret hB hE rfl (rfl) dX7_holds_31 (⟨rfl, by unfold hldP; omega⟩)
        · refine R_iconst hB dX7_holds_26 ?_
          refine R_goto hB 31 dX7_holds_27 rfl ?_
          exact R_zret hB hE rfl (rfl) dX7_holds_31 (⟨rfl, by unfold hldP; omega⟩)

theorem s_findingAt_1 {Θ : Th} {σ : Mem} (f i : Int) (hf : rng f) (hi : rng i) (hq : (σ 19 1 = 0 ∨ σ 19 1 = 1) ∧ (0 ≤ σ 19 2 ∧ σ 19 2 < 3) ∧ (0 ≤ σ 19 3 ∧ σ 19 3 ≤ 60)) : Spc Θ M_X7_findingAt 1 [.ref (Th.r Θ 0), .ref (Th.r Θ 19), .int (I f), .int (I i)] σ (Pu σ (fun z => z = fnd (σ 19) f i)) := by
  refine Spc_of (by decide +kernel) (Nat.le_of_ble_eq_true rfl) (fun Γ hB hE => ?_)
  show Run Θ Γ 0 [(0, .ref (Th.r Θ 0)), (1, .ref (Th.r Θ 19)), (2, .int (I f)), (3, .int (I i))] [] σ
  refine R_aload_n hB (j := 1) dX7_findingAt_0 rfl rfl ?_
  refine R_getz hB fl_X7_233 dX7_findingAt_1 rfl ?_
  refine R_if_eq hB 9 (by omega) dX7_findingAt_4 rfl (fun h4 => ?_) (fun h4 => ?_)
  · refine R_aload_n hB (j := 1) dX7_findingAt_9 rfl rfl ?_
    refine R_geti hB fl_X7_300 dX7_findingAt_10 rfl ?_
    refine R_iload_n hB (j := 2) dX7_findingAt_13 rfl rfl ?_
    refine R_icmp_eq hB 19 (by omega) (by omega) dX7_findingAt_14 rfl (fun h14 => ?_) (fun h14 => ?_)
    · refine R_iload_n hB (j := 3) dX7_findingAt_19 rfl rfl ?_
      refine R_aload_n hB (j := 1) dX7_findingAt_20 rfl rfl ?_
      refine R_geti hB fl_X7_240 dX7_findingAt_21 rfl ?_
      refine P_cS1 hB (s_within _ _ (by omega) (by omega)) ms_X7_89 (by decide) dX7_findingAt_24 rfl rfl (Nat.le_of_ble_eq_true rfl) (fun z24 h24 => ?_)
      refine R_if_eq hB 34 (by rw [h24]; split <;> omega) dX7_findingAt_27 rfl (fun h27 => ?_) (fun h27 => ?_)
      · refine R_iconst hB dX7_findingAt_34 ?_
        exact R_iret hB hE rfl dX7_findingAt_35 (⟨rfl, by unfold fnd; rw [if_neg (by omega), if_neg (by omega)]; split at h24 <;> (first | (exfalso; omega) | rw [if_pos (by omega)] | rw [if_neg (by omega)])⟩)
      · refine R_iconst hB dX7_findingAt_30 ?_
        refine R_goto hB 35 dX7_findingAt_31 rfl ?_
        exact R_iret hB hE rfl dX7_findingAt_35 (⟨rfl, by unfold fnd; rw [if_neg (by omega), if_neg (by omega)]; split at h24 <;> (first | (exfalso; omega) | rw [if_pos (by omega)] | rw [if_neg (by omega)])⟩)
    · refine R_iconst hB dX7_findingAt_17 ?_
      exact R_iret hB hE rfl dX7_findingAt_18 (⟨rfl, by unfold fnd; rw [if_neg (by omega), if_pos h14]⟩)
  · refine R_iconst hB dX7_findingAt_7 ?_
    exact R_iret hB hE rfl dX7_findingAt_8 (⟨rfl, by unfold fnd; rw [if_pos (by omega)]⟩)

theorem s_holds_1 {Θ : Th} {σ : Mem} (i n : Int) (hi : rng i) (hn : rng n) (hq : 0 ≤ σ 19 3 ∧ σ 19 3 ≤ 60) : Spc Θ M_X7_holds 1 [.ref (Th.r Θ 19), .int (I i), .int (I n)] σ (Pu σ (fun z => (z = 1 ∧ hldP (σ 19) i n) ∨ (z = 0 ∧ ¬ hldP (σ 19) i n))) := by
  refine Spc_of (by decide +kernel) (Nat.le_of_ble_eq_true rfl) (fun Γ hB hE => ?_)
  show Run Θ Γ 0 [(0, .ref (Th.r Θ 19)), (1, .int (I i)), (2, .int (I n))] [] σ
  refine R_iload_n hB (j := 1) dX7_holds_0 rfl rfl ?_
  refine R_if_lt hB 30 (by omega) dX7_holds_1 rfl (fun h1 => ?_) (fun h1 => ?_)
  · refine R_iconst hB dX7_holds_30 ?_
    exact R_zret hB hE rfl (rfl) dX7_holds_31 (⟨rfl, by unfold hldP; omega⟩)
  · refine R_iload_n hB (j := 2) dX7_holds_4 rfl rfl ?_
    refine R_if_lt hB 30 (by omega) dX7_holds_5 rfl (fun h5 => ?_) (fun h5 => ?_)
    · refine R_iconst hB dX7_holds_30 ?_
      exact R_zret hB hE rfl (rfl) dX7_holds_31 (⟨rfl, by unfold hldP; omega⟩)
    · refine R_iload_n hB (j := 1) dX7_holds_8 rfl rfl ?_
      refine R_aload_n hB (j := 0) dX7_holds_9 rfl rfl ?_
      refine R_geti hB fl_X7_240 dX7_holds_10 rfl ?_
      refine R_icmp_gt hB 30 (by omega) (by omega) dX7_holds_13 rfl (fun h13 => ?_) (fun h13 => ?_)
      · refine R_iconst hB dX7_holds_30 ?_
        exact R_zret hB hE rfl (rfl) dX7_holds_31 (⟨rfl, by unfold hldP; omega⟩)
      · refine R_iload_n hB (j := 2) dX7_holds_16 rfl rfl ?_
        refine R_aload_n hB (j := 0) dX7_holds_17 rfl rfl ?_
        refine R_geti hB fl_X7_240 dX7_holds_18 rfl ?_
        refine R_iload_n hB (j := 1) dX7_holds_21 rfl rfl ?_
        refine R_isub hB dX7_holds_22 ?_
        refine R_icmp_gt hB 30 (by omega) (by omega) dX7_holds_23 rfl (fun h23 => ?_) (fun h23 => ?_)
        · refine R_iconst hB dX7_holds_30 ?_
          exact R_zret hB hE rfl (rfl) dX7_holds_31 (⟨rfl, by unfold hldP; omega⟩)
        · refine R_iconst hB dX7_holds_26 ?_
          refine R_goto hB 31 dX7_holds_27 rfl ?_
          exact R_zret hB hE rfl (rfl) dX7_holds_31 (⟨rfl, by unfold hldP; omega⟩)

theorem s_findingAt_2 {Θ : Th} {σ : Mem} (f i : Int) (hf : rng f) (hi : rng i) (hq : (σ 20 1 = 0 ∨ σ 20 1 = 1) ∧ (0 ≤ σ 20 2 ∧ σ 20 2 < 3) ∧ (0 ≤ σ 20 3 ∧ σ 20 3 ≤ 60)) : Spc Θ M_X7_findingAt 1 [.ref (Th.r Θ 0), .ref (Th.r Θ 20), .int (I f), .int (I i)] σ (Pu σ (fun z => z = fnd (σ 20) f i)) := by
  refine Spc_of (by decide +kernel) (Nat.le_of_ble_eq_true rfl) (fun Γ hB hE => ?_)
  show Run Θ Γ 0 [(0, .ref (Th.r Θ 0)), (1, .ref (Th.r Θ 20)), (2, .int (I f)), (3, .int (I i))] [] σ
  refine R_aload_n hB (j := 1) dX7_findingAt_0 rfl rfl ?_
  refine R_getz hB fl_X7_233 dX7_findingAt_1 rfl ?_
  refine R_if_eq hB 9 (by omega) dX7_findingAt_4 rfl (fun h4 => ?_) (fun h4 => ?_)
  · refine R_aload_n hB (j := 1) dX7_findingAt_9 rfl rfl ?_
    refine R_geti hB fl_X7_300 dX7_findingAt_10 rfl ?_
    refine R_iload_n hB (j := 2) dX7_findingAt_13 rfl rfl ?_
    refine R_icmp_eq hB 19 (by omega) (by omega) dX7_findingAt_14 rfl (fun h14 => ?_) (fun h14 => ?_)
    · refine R_iload_n hB (j := 3) dX7_findingAt_19 rfl rfl ?_
      refine R_aload_n hB (j := 1) dX7_findingAt_20 rfl rfl ?_
      refine R_geti hB fl_X7_240 dX7_findingAt_21 rfl ?_
      refine P_cS1 hB (s_within _ _ (by omega) (by omega)) ms_X7_89 (by decide) dX7_findingAt_24 rfl rfl (Nat.le_of_ble_eq_true rfl) (fun z24 h24 => ?_)
      refine R_if_eq hB 34 (by rw [h24]; split <;> omega) dX7_findingAt_27 rfl (fun h27 => ?_) (fun h27 => ?_)
      · refine R_iconst hB dX7_findingAt_34 ?_
        exact R_iret hB hE rfl dX7_findingAt_35 (⟨rfl, by unfold fnd; rw [if_neg (by omega), if_neg (by omega)]; split at h24 <;> (first | (exfalso; omega) | rw [if_pos (by omega)] | rw [if_neg (by omega)])⟩)
      · refine R_iconst hB dX7_findingAt_30 ?_
        refine R_goto hB 35 dX7_findingAt_31 rfl ?_
        exact R_iret hB hE rfl dX7_findingAt_35 (⟨rfl, by unfold fnd; rw [if_neg (by omega), if_neg (by omega)]; split at h24 <;> (first | (exfalso; omega) | rw [if_pos (by omega)] | rw [if_neg (by omega)])⟩)
    · refine R_iconst hB dX7_findingAt_17 ?_
      exact R_iret hB hE rfl dX7_findingAt_18 (⟨rfl, by unfold fnd; rw [if_neg (by omega), if_pos h14]⟩)
  · refine R_iconst hB dX7_findingAt_7 ?_
    exact R_iret hB hE rfl dX7_findingAt_8 (⟨rfl, by unfold fnd; rw [if_pos (by omega)]⟩)

theorem s_holds_2 {Θ : Th} {σ : Mem} (i n : Int) (hi : rng i) (hn : rng n) (hq : 0 ≤ σ 20 3 ∧ σ 20 3 ≤ 60) : Spc Θ M_X7_holds 1 [.ref (Th.r Θ 20), .int (I i), .int (I n)] σ (Pu σ (fun z => (z = 1 ∧ hldP (σ 20) i n) ∨ (z = 0 ∧ ¬ hldP (σ 20) i n))) := by
  refine Spc_of (by decide +kernel) (Nat.le_of_ble_eq_true rfl) (fun Γ hB hE => ?_)
  show Run Θ Γ 0 [(0, .ref (Th.r Θ 20)), (1, .int (I i)), (2, .int (I n))] [] σ
  refine R_iload_n hB (j := 1) dX7_holds_0 rfl rfl ?_
  refine R_if_lt hB 30 (by omega) dX7_holds_1 rfl (fun h1 => ?_) (fun h1 => ?_)
  · refine R_iconst hB dX7_holds_30 ?_
    exact R_zret hB hE rfl (rfl) dX7_holds_31 (⟨rfl, by unfold hldP; omega⟩)
  · refine R_iload_n hB (j := 2) dX7_holds_4 rfl rfl ?_
    refine R_if_lt hB 30 (by omega) dX7_holds_5 rfl (fun h5 => ?_) (fun h5 => ?_)
    · refine R_iconst hB dX7_holds_30 ?_
      exact R_zret hB hE rfl (rfl) dX7_holds_31 (⟨rfl, by unfold hldP; omega⟩)
    · refine R_iload_n hB (j := 1) dX7_holds_8 rfl rfl ?_
      refine R_aload_n hB (j := 0) dX7_holds_9 rfl rfl ?_
      refine R_geti hB fl_X7_240 dX7_holds_10 rfl ?_
      refine R_icmp_gt hB 30 (by omega) (by omega) dX7_holds_13 rfl (fun h13 => ?_) (fun h13 => ?_)
      · refine R_iconst hB dX7_holds_30 ?_
        exact R_zret hB hE rfl (rfl) dX7_holds_31 (⟨rfl, by unfold hldP; omega⟩)
      · refine R_iload_n hB (j := 2) dX7_holds_16 rfl rfl ?_
        refine R_aload_n hB (j := 0) dX7_holds_17 rfl rfl ?_
        refine R_geti hB fl_X7_240 dX7_holds_18 rfl ?_
        refine R_iload_n hB (j := 1) dX7_holds_21 rfl rfl ?_
        refine R_isub hB dX7_holds_22 ?_
        refine R_icmp_gt hB 30 (by omega) (by omega) dX7_holds_23 rfl (fun h23 => ?_) (fun h23 => ?_)
        · refine R_iconst hB dX7_holds_30 ?_
          exact R_zret hB hE rfl (rfl) dX7_holds_31 (⟨rfl, by unfold hldP; omega⟩)
        · refine R_iconst hB dX7_holds_26 ?_
          refine R_goto hB 31 dX7_holds_27 rfl ?_
          exact R_zret hB hE rfl (rfl) dX7_holds_31 (⟨rfl, by unfold hldP; omega⟩)

theorem s_findingAt_3 {Θ : Th} {σ : Mem} (f i : Int) (hf : rng f) (hi : rng i) (hq : (σ 21 1 = 0 ∨ σ 21 1 = 1) ∧ (0 ≤ σ 21 2 ∧ σ 21 2 < 3) ∧ (0 ≤ σ 21 3 ∧ σ 21 3 ≤ 60)) : Spc Θ M_X7_findingAt 1 [.ref (Th.r Θ 0), .ref (Th.r Θ 21), .int (I f), .int (I i)] σ (Pu σ (fun z => z = fnd (σ 21) f i)) := by
  refine Spc_of (by decide +kernel) (Nat.le_of_ble_eq_true rfl) (fun Γ hB hE => ?_)
  show Run Θ Γ 0 [(0, .ref (Th.r Θ 0)), (1, .ref (Th.r Θ 21)), (2, .int (I f)), (3, .int (I i))] [] σ
  refine R_aload_n hB (j := 1) dX7_findingAt_0 rfl rfl ?_
  refine R_getz hB fl_X7_233 dX7_findingAt_1 rfl ?_
  refine R_if_eq hB 9 (by omega) dX7_findingAt_4 rfl (fun h4 => ?_) (fun h4 => ?_)
  · refine R_aload_n hB (j := 1) dX7_findingAt_9 rfl rfl ?_
    refine R_geti hB fl_X7_300 dX7_findingAt_10 rfl ?_
    refine R_iload_n hB (j := 2) dX7_findingAt_13 rfl rfl ?_
    refine R_icmp_eq hB 19 (by omega) (by omega) dX7_findingAt_14 rfl (fun h14 => ?_) (fun h14 => ?_)
    · refine R_iload_n hB (j := 3) dX7_findingAt_19 rfl rfl ?_
      refine R_aload_n hB (j := 1) dX7_findingAt_20 rfl rfl ?_
      refine R_geti hB fl_X7_240 dX7_findingAt_21 rfl ?_
      refine P_cS1 hB (s_within _ _ (by omega) (by omega)) ms_X7_89 (by decide) dX7_findingAt_24 rfl rfl (Nat.le_of_ble_eq_true rfl) (fun z24 h24 => ?_)
      refine R_if_eq hB 34 (by rw [h24]; split <;> omega) dX7_findingAt_27 rfl (fun h27 => ?_) (fun h27 => ?_)
      · refine R_iconst hB dX7_findingAt_34 ?_
        exact R_iret hB hE rfl dX7_findingAt_35 (⟨rfl, by unfold fnd; rw [if_neg (by omega), if_neg (by omega)]; split at h24 <;> (first | (exfalso; omega) | rw [if_pos (by omega)] | rw [if_neg (by omega)])⟩)
      · refine R_iconst hB dX7_findingAt_30 ?_
        refine R_goto hB 35 dX7_findingAt_31 rfl ?_
        exact R_iret hB hE rfl dX7_findingAt_35 (⟨rfl, by unfold fnd; rw [if_neg (by omega), if_neg (by omega)]; split at h24 <;> (first | (exfalso; omega) | rw [if_pos (by omega)] | rw [if_neg (by omega)])⟩)
    · refine R_iconst hB dX7_findingAt_17 ?_
      exact R_iret hB hE rfl dX7_findingAt_18 (⟨rfl, by unfold fnd; rw [if_neg (by omega), if_pos h14]⟩)
  · refine R_iconst hB dX7_findingAt_7 ?_
    exact R_iret hB hE rfl dX7_findingAt_8 (⟨rfl, by unfold fnd; rw [if_pos (by omega)]⟩)

theorem s_holds_3 {Θ : Th} {σ : Mem} (i n : Int) (hi : rng i) (hn : rng n) (hq : 0 ≤ σ 21 3 ∧ σ 21 3 ≤ 60) : Spc Θ M_X7_holds 1 [.ref (Th.r Θ 21), .int (I i), .int (I n)] σ (Pu σ (fun z => (z = 1 ∧ hldP (σ 21) i n) ∨ (z = 0 ∧ ¬ hldP (σ 21) i n))) := by
  refine Spc_of (by decide +kernel) (Nat.le_of_ble_eq_true rfl) (fun Γ hB hE => ?_)
  show Run Θ Γ 0 [(0, .ref (Th.r Θ 21)), (1, .int (I i)), (2, .int (I n))] [] σ
  refine R_iload_n hB (j := 1) dX7_holds_0 rfl rfl ?_
  refine R_if_lt hB 30 (by omega) dX7_holds_1 rfl (fun h1 => ?_) (fun h1 => ?_)
  · refine R_iconst hB dX7_holds_30 ?_
    exact R_zret hB hE rfl (rfl) dX7_holds_31 (⟨rfl, by unfold hldP; omega⟩)
  · refine R_iload_n hB (j := 2) dX7_holds_4 rfl rfl ?_
    refine R_if_lt hB 30 (by omega) dX7_holds_5 rfl (fun h5 => ?_) (fun h5 => ?_)
    · refine R_iconst hB dX7_holds_30 ?_
      exact R_zret hB hE rfl (rfl) dX7_holds_31 (⟨rfl, by unfold hldP; omega⟩)
    · refine R_iload_n hB (j := 1) dX7_holds_8 rfl rfl ?_
      refine R_aload_n hB (j := 0) dX7_holds_9 rfl rfl ?_
      refine R_geti hB fl_X7_240 dX7_holds_10 rfl ?_
      refine R_icmp_gt hB 30 (by omega) (by omega) dX7_holds_13 rfl (fun h13 => ?_) (fun h13 => ?_)
      · refine R_iconst hB dX7_holds_30 ?_
        exact R_zret hB hE rfl (rfl) dX7_holds_31 (⟨rfl, by unfold hldP; omega⟩)
      · refine R_iload_n hB (j := 2) dX7_holds_16 rfl rfl ?_
        refine R_aload_n hB (j := 0) dX7_holds_17 rfl rfl ?_
        refine R_geti hB fl_X7_240 dX7_holds_18 rfl ?_
        refine R_iload_n hB (j := 1) dX7_holds_21 rfl rfl ?_
        refine R_isub hB dX7_holds_22 ?_
        refine R_icmp_gt hB 30 (by omega) (by omega) dX7_holds_23 rfl (fun h23 => ?_) (fun h23 => ?_)
        · refine R_iconst hB dX7_holds_30 ?_
          exact R_zret hB hE rfl (rfl) dX7_holds_31 (⟨rfl, by unfold hldP; omega⟩)
        · refine R_iconst hB dX7_holds_26 ?_
          refine R_goto hB 31 dX7_holds_27 rfl ?_
          exact R_zret hB hE rfl (rfl) dX7_holds_31 (⟨rfl, by unfold hldP; omega⟩)

theorem s_put {Θ : Th} {σ : Mem} (s f i v : Int) (hs : rng s) (hfr : rng f) (hi : rng i) (hv : rng v) (h : InvC σ) : Spc Θ M_X7_put 1 [.ref (Th.r Θ 0), .int (I s), .int (I f), .int (I i), .int (I v)] σ (fun r σ' => (¬ ((0 ≤ s ∧ s < 4) ∧ (0 ≤ f ∧ f < 3)) ∧ r = -2 ∧ σ' = σ) ∨ (((0 ≤ s ∧ s < 4) ∧ (0 ≤ f ∧ f < 3)) ∧ fnd (σ (18 + s.toNat)) f i ≠ 0 ∧ r = -10 - fnd (σ (18 + s.toNat)) f i ∧ σ' = up σ 0 7 (fnd (σ (18 + s.toNat)) f i) ∧ InvC σ') ∨ (((0 ≤ s ∧ s < 4) ∧ (0 ≤ f ∧ f < 3)) ∧ fnd (σ (18 + s.toNat)) f i = 0 ∧ r = 1 ∧ σ' = up σ (49 + s.toNat) i (cutF (σ (18 + s.toNat) 2) v) ∧ InvC σ')) := by
  refine Spc_of (by decide +kernel) (Nat.le_of_ble_eq_true rfl) (fun Γ hB hE => ?_)
  show Run Θ Γ 0 [(0, .ref (Th.r Θ 0)), (1, .int (I s)), (2, .int (I f)), (3, .int (I i)), (4, .int (I v))] [] σ
  refine R_iload_n hB (j := 1) dX7_put_0 rfl rfl ?_
  refine R_iconst hB dX7_put_1 ?_
  refine P_cS1 hB (s_within _ _ (by omega) (by omega)) ms_X7_89 (by decide) dX7_put_2 rfl rfl (Nat.le_of_ble_eq_true rfl) (fun z2 h2 => ?_)
  refine R_if_eq hB 16 (by rw [h2]; split <;> omega) dX7_put_5 rfl (fun h5 => ?_) (fun h5 => ?_)
  · have hno : ¬ ((0 ≤ s ∧ s < 4) ∧ (0 ≤ f ∧ f < 3)) := by split at h2 <;> omega
    refine R_bipush hB dX7_put_16 rfl ?_
    exact R_iret hB hE rfl dX7_put_18 (Or.inl ⟨hno, rfl, rfl⟩)
  · have hy : 0 ≤ s ∧ s < 4 := by split at h2 <;> omega
    refine R_iload_n hB (j := 2) dX7_put_8 rfl rfl ?_
    refine R_iconst hB dX7_put_9 ?_
    refine P_cS1 hB (s_within _ _ (by omega) (by omega)) ms_X7_89 (by decide) dX7_put_10 rfl rfl (Nat.le_of_ble_eq_true rfl) (fun z10 h10 => ?_)
    refine R_if_ne hB 19 (by rw [h10]; split <;> omega) dX7_put_13 rfl (fun h13 => ?_) (fun h13 => ?_)
    · have hf : 0 ≤ f ∧ f < 3 := by split at h10 <;> omega
      rcases (show s = 0 ∨ s = 1 ∨ s = 2 ∨ s = 3 by omega) with rfl | rfl | rfl | rfl
      · show Run Θ Γ 19 [(0, .ref (Th.r Θ 0)), (1, .int (I 0)), (2, .int (I f)), (3, .int (I i)), (4, .int (I v))] [] σ
        refine R_aload_n hB (j := 0) dX7_put_19 rfl rfl ?_
        refine R_aload_n hB (j := 0) dX7_put_20 rfl rfl ?_
        refine R_getr hB (24) fl_X7_41 dX7_put_21 rfl rfl ?_
        refine R_iload_n hB (j := 1) dX7_put_24 rfl rfl ?_
        refine R_aald hB (18) rfl (by decide) (by omega) rfl dX7_put_25 ?_
        refine R_iload_n hB (j := 2) dX7_put_26 rfl rfl ?_
        refine R_iload_n hB (j := 3) dX7_put_27 rfl rfl ?_
        have hq : (σ 18 1 = 0 ∨ σ 18 1 = 1) ∧ (0 ≤ σ 18 2 ∧ σ 18 2 < 3) ∧ (0 ≤ σ 18 3 ∧ σ 18 3 ≤ 60) := h.2.2.2.2.2.1 0 (by decide)
        refine P_cV1 hB (s_findingAt_0 f i hfr hi hq) mv_X7_303 rfl rfl (by decide) dX7_put_28 rfl rfl (Nat.le_of_ble_eq_true rfl) (fun z28 h28 => ?_)
        have hfn := fnd_in (σ 18) f i
        rw [← h28] at hfn
        refine R_istore hB (L' := [_, _, _, _, _, _]) dX7_put_31 (Nat.le_of_ble_eq_true rfl) rfl ?_
        refine R_iload hB (j := 0) dX7_put_33 rfl ?_
        refine R_if_eq hB 45 (by omega) dX7_put_35 rfl (fun h35 => ?_) (fun h35 => ?_)
        · refine R_aload_n hB (j := 1) dX7_put_45 rfl rfl ?_
          refine R_getr hB (24) fl_X7_41 dX7_put_46 rfl rfl ?_
          refine R_iload_n hB (j := 2) dX7_put_49 rfl rfl ?_
          refine R_aald hB (18) rfl (by decide) (by omega) rfl dX7_put_50 ?_
          refine R_iload_n hB (j := 4) dX7_put_51 rfl rfl ?_
          refine R_iload hB (j := 5) dX7_put_52 rfl ?_
          have hin : 0 ≤ i ∧ i < σ 18 3 := by
            have hz : fnd (σ 18) f i = 0 := by omega
            unfold fnd at hz
            (repeat split at hz) <;> omega
          refine R_cV0 hB (s_enter_0 i v (by omega) hv (by omega)) mv_X7_307 rfl rfl (by decide) dX7_put_54 rfl rfl (Nat.le_of_ble_eq_true rfl) (fun σ1 h54 => ?_)
          refine R_iconst hB dX7_put_57 ?_
          exact R_iret hB hE rfl dX7_put_58 (Or.inr (Or.inr ⟨⟨hy, hf⟩, (by show fnd (σ 18) f i = 0; omega), rfl, h54, h.sh (fun j hi => by
              simp only [List.mem_cons, List.not_mem_nil, or_false, not_or] at hi
              rw [h54, up_row (by omega)]) (by rw [h54, up_row (by decide)]) (by rw [h54, up_row (by decide)]; exact h.2.2.2.2.2.2) (fun x hx => by rw [h54, up_row (by omega)]; exact h.2.2.2.2.2.1 x hx)⟩))
        · refine R_aload_n hB (j := 1) dX7_put_38 rfl rfl ?_
          refine R_iload hB (j := 0) dX7_put_39 rfl ?_
          refine R_cV1 hB (s_found _ (by omega)) mv_X7_237 rfl rfl (by decide) dX7_put_41 rfl rfl (Nat.le_of_ble_eq_true rfl) (fun z41 σ1 h41 => ?_)
          exact R_iret hB hE rfl dX7_put_44 (Or.inr (Or.inl ⟨⟨hy, hf⟩, (by show fnd (σ 18) f i ≠ 0; omega), (by show z41 = -10 - fnd (σ 18) f i; rw [← h28]; exact h41.1), (by show σ1 = up σ 0 7 (fnd (σ 18) f i); rw [← h28]; exact h41.2), by rw [h41.2]; exact h.fnd (by omega)⟩))
      · show Run Θ Γ 19 [(0, .ref (Th.r Θ 0)), (1, .int (I 1)), (2, .int (I f)), (3, .int (I i)), (4, .int (I v))] [] σ
        refine R_aload_n hB (j := 0) dX7_put_19 rfl rfl ?_
        refine R_aload_n hB (j := 0) dX7_put_20 rfl rfl ?_
        refine R_getr hB (24) fl_X7_41 dX7_put_21 rfl rfl ?_
        refine R_iload_n hB (j := 1) dX7_put_24 rfl rfl ?_
        refine R_aald hB (19) rfl (by decide) (by omega) rfl dX7_put_25 ?_
        refine R_iload_n hB (j := 2) dX7_put_26 rfl rfl ?_
        refine R_iload_n hB (j := 3) dX7_put_27 rfl rfl ?_
        have hq : (σ 19 1 = 0 ∨ σ 19 1 = 1) ∧ (0 ≤ σ 19 2 ∧ σ 19 2 < 3) ∧ (0 ≤ σ 19 3 ∧ σ 19 3 ≤ 60) := h.2.2.2.2.2.1 1 (by decide)
        refine P_cV1 hB (s_findingAt_1 f i hfr hi hq) mv_X7_303 rfl rfl (by decide) dX7_put_28 rfl rfl (Nat.le_of_ble_eq_true rfl) (fun z28 h28 => ?_)
        have hfn := fnd_in (σ 19) f i
        rw [← h28] at hfn
        refine R_istore hB (L' := [_, _, _, _, _, _]) dX7_put_31 (Nat.le_of_ble_eq_true rfl) rfl ?_
        refine R_iload hB (j := 0) dX7_put_33 rfl ?_
        refine R_if_eq hB 45 (by omega) dX7_put_35 rfl (fun h35 => ?_) (fun h35 => ?_)
        · refine R_aload_n hB (j := 1) dX7_put_45 rfl rfl ?_
          refine R_getr hB (24) fl_X7_41 dX7_put_46 rfl rfl ?_
          refine R_iload_n hB (j := 2) dX7_put_49 rfl rfl ?_
          refine R_aald hB (19) rfl (by decide) (by omega) rfl dX7_put_50 ?_
          refine R_iload_n hB (j := 4) dX7_put_51 rfl rfl ?_
          refine R_iload hB (j := 5) dX7_put_52 rfl ?_
          have hin : 0 ≤ i ∧ i < σ 19 3 := by
            have hz : fnd (σ 19) f i = 0 := by omega
            unfold fnd at hz
            (repeat split at hz) <;> omega
          refine R_cV0 hB (s_enter_1 i v (by omega) hv (by omega)) mv_X7_307 rfl rfl (by decide) dX7_put_54 rfl rfl (Nat.le_of_ble_eq_true rfl) (fun σ1 h54 => ?_)
          refine R_iconst hB dX7_put_57 ?_
          exact R_iret hB hE rfl dX7_put_58 (Or.inr (Or.inr ⟨⟨hy, hf⟩, (by show fnd (σ 19) f i = 0; omega), rfl, h54, h.sh (fun j hi => by
              simp only [List.mem_cons, List.not_mem_nil, or_false, not_or] at hi
              rw [h54, up_row (by omega)]) (by rw [h54, up_row (by decide)]) (by rw [h54, up_row (by decide)]; exact h.2.2.2.2.2.2) (fun x hx => by rw [h54, up_row (by omega)]; exact h.2.2.2.2.2.1 x hx)⟩))
        · refine R_aload_n hB (j := 1) dX7_put_38 rfl rfl ?_
          refine R_iload hB (j := 0) dX7_put_39 rfl ?_
          refine R_cV1 hB (s_found _ (by omega)) mv_X7_237 rfl rfl (by decide) dX7_put_41 rfl rfl (Nat.le_of_ble_eq_true rfl) (fun z41 σ1 h41 => ?_)
          exact R_iret hB hE rfl dX7_put_44 (Or.inr (Or.inl ⟨⟨hy, hf⟩, (by show fnd (σ 19) f i ≠ 0; omega), (by show z41 = -10 - fnd (σ 19) f i; rw [← h28]; exact h41.1), (by show σ1 = up σ 0 7 (fnd (σ 19) f i); rw [← h28]; exact h41.2), by rw [h41.2]; exact h.fnd (by omega)⟩))
      · show Run Θ Γ 19 [(0, .ref (Th.r Θ 0)), (1, .int (I 2)), (2, .int (I f)), (3, .int (I i)), (4, .int (I v))] [] σ
        refine R_aload_n hB (j := 0) dX7_put_19 rfl rfl ?_
        refine R_aload_n hB (j := 0) dX7_put_20 rfl rfl ?_
        refine R_getr hB (24) fl_X7_41 dX7_put_21 rfl rfl ?_
        refine R_iload_n hB (j := 1) dX7_put_24 rfl rfl ?_
        refine R_aald hB (20) rfl (by decide) (by omega) rfl dX7_put_25 ?_
        refine R_iload_n hB (j := 2) dX7_put_26 rfl rfl ?_
        refine R_iload_n hB (j := 3) dX7_put_27 rfl rfl ?_
        have hq : (σ 20 1 = 0 ∨ σ 20 1 = 1) ∧ (0 ≤ σ 20 2 ∧ σ 20 2 < 3) ∧ (0 ≤ σ 20 3 ∧ σ 20 3 ≤ 60) := h.2.2.2.2.2.1 2 (by decide)
        refine P_cV1 hB (s_findingAt_2 f i hfr hi hq) mv_X7_303 rfl rfl (by decide) dX7_put_28 rfl rfl (Nat.le_of_ble_eq_true rfl) (fun z28 h28 => ?_)
        have hfn := fnd_in (σ 20) f i
        rw [← h28] at hfn
        refine R_istore hB (L' := [_, _, _, _, _, _]) dX7_put_31 (Nat.le_of_ble_eq_true rfl) rfl ?_
        refine R_iload hB (j := 0) dX7_put_33 rfl ?_
        refine R_if_eq hB 45 (by omega) dX7_put_35 rfl (fun h35 => ?_) (fun h35 => ?_)
        · refine R_aload_n hB (j := 1) dX7_put_45 rfl rfl ?_
          refine R_getr hB (24) fl_X7_41 dX7_put_46 rfl rfl ?_
          refine R_iload_n hB (j := 2) dX7_put_49 rfl rfl ?_
          refine R_aald hB (20) rfl (by decide) (by omega) rfl dX7_put_50 ?_
          refine R_iload_n hB (j := 4) dX7_put_51 rfl rfl ?_
          refine R_iload hB (j := 5) dX7_put_52 rfl ?_
          have hin : 0 ≤ i ∧ i < σ 20 3 := by
            have hz : fnd (σ 20) f i = 0 := by omega
            unfold fnd at hz
            (repeat split at hz) <;> omega
          refine R_cV0 hB (s_enter_2 i v (by omega) hv (by omega)) mv_X7_307 rfl rfl (by decide) dX7_put_54 rfl rfl (Nat.le_of_ble_eq_true rfl) (fun σ1 h54 => ?_)
          refine R_iconst hB dX7_put_57 ?_
          exact R_iret hB hE rfl dX7_put_58 (Or.inr (Or.inr ⟨⟨hy, hf⟩, (by show fnd (σ 20) f i = 0; omega), rfl, h54, h.sh (fun j hi => by
              simp only [List.mem_cons, List.not_mem_nil, or_false, not_or] at hi
              rw [h54, up_row (by omega)]) (by rw [h54, up_row (by decide)]) (by rw [h54, up_row (by decide)]; exact h.2.2.2.2.2.2) (fun x hx => by rw [h54, up_row (by omega)]; exact h.2.2.2.2.2.1 x hx)⟩))
        · refine R_aload_n hB (j := 1) dX7_put_38 rfl rfl ?_
          refine R_iload hB (j := 0) dX7_put_39 rfl ?_
          refine R_cV1 hB (s_found _ (by omega)) mv_X7_237 rfl rfl (by decide) dX7_put_41 rfl rfl (Nat.le_of_ble_eq_true rfl) (fun z41 σ1 h41 => ?_)
          exact R_iret hB hE rfl dX7_put_44 (Or.inr (Or.inl ⟨⟨hy, hf⟩, (by show fnd (σ 20) f i ≠ 0; omega), (by show z41 = -10 - fnd (σ 20) f i; rw [← h28]; exact h41.1), (by show σ1 = up σ 0 7 (fnd (σ 20) f i); rw [← h28]; exact h41.2), by rw [h41.2]; exact h.fnd (by omega)⟩))
      · show Run Θ Γ 19 [(0, .ref (Th.r Θ 0)), (1, .int (I 3)), (2, .int (I f)), (3, .int (I i)), (4, .int (I v))] [] σ
        refine R_aload_n hB (j := 0) dX7_put_19 rfl rfl ?_
        refine R_aload_n hB (j := 0) dX7_put_20 rfl rfl ?_
        refine R_getr hB (24) fl_X7_41 dX7_put_21 rfl rfl ?_
        refine R_iload_n hB (j := 1) dX7_put_24 rfl rfl ?_
        refine R_aald hB (21) rfl (by decide) (by omega) rfl dX7_put_25 ?_
        refine R_iload_n hB (j := 2) dX7_put_26 rfl rfl ?_
        refine R_iload_n hB (j := 3) dX7_put_27 rfl rfl ?_
        have hq : (σ 21 1 = 0 ∨ σ 21 1 = 1) ∧ (0 ≤ σ 21 2 ∧ σ 21 2 < 3) ∧ (0 ≤ σ 21 3 ∧ σ 21 3 ≤ 60) := h.2.2.2.2.2.1 3 (by decide)
        refine P_cV1 hB (s_findingAt_3 f i hfr hi hq) mv_X7_303 rfl rfl (by decide) dX7_put_28 rfl rfl (Nat.le_of_ble_eq_true rfl) (fun z28 h28 => ?_)
        have hfn := fnd_in (σ 21) f i
        rw [← h28] at hfn
        refine R_istore hB (L' := [_, _, _, _, _, _]) dX7_put_31 (Nat.le_of_ble_eq_true rfl) rfl ?_
        refine R_iload hB (j := 0) dX7_put_33 rfl ?_
        refine R_if_eq hB 45 (by omega) dX7_put_35 rfl (fun h35 => ?_) (fun h35 => ?_)
        · refine R_aload_n hB (j := 1) dX7_put_45 rfl rfl ?_
          refine R_getr hB (24) fl_X7_41 dX7_put_46 rfl rfl ?_
          refine R_iload_n hB (j := 2) dX7_put_49 rfl rfl ?_
          refine R_aald hB (21) rfl (by decide) (by omega) rfl dX7_put_50 ?_
          refine R_iload_n hB (j := 4) dX7_put_51 rfl rfl ?_
          refine R_iload hB (j := 5) dX7_put_52 rfl ?_
          have hin : 0 ≤ i ∧ i < σ 21 3 := by
            have hz : fnd (σ 21) f i = 0 := by omega
            unfold fnd at hz
            (repeat split at hz) <;> omega
          refine R_cV0 hB (s_enter_3 i v (by omega) hv (by omega)) mv_X7_307 rfl rfl (by decide) dX7_put_54 rfl rfl (Nat.le_of_ble_eq_true rfl) (fun σ1 h54 => ?_)
          refine R_iconst hB dX7_put_57 ?_
          exact R_iret hB hE rfl dX7_put_58 (Or.inr (Or.inr ⟨⟨hy, hf⟩, (by show fnd (σ 21) f i = 0; omega), rfl, h54, h.sh (fun j hi => by
              simp only [List.mem_cons, List.not_mem_nil, or_false, not_or] at hi
              rw [h54, up_row (by omega)]) (by rw [h54, up_row (by decide)]) (by rw [h54, up_row (by decide)]; exact h.2.2.2.2.2.2) (fun x hx => by rw [h54, up_row (by omega)]; exact h.2.2.2.2.2.1 x hx)⟩))
        · refine R_aload_n hB (j := 1) dX7_put_38 rfl rfl ?_
          refine R_iload hB (j := 0) dX7_put_39 rfl ?_
          refine R_cV1 hB (s_found _ (by omega)) mv_X7_237 rfl rfl (by decide) dX7_put_41 rfl rfl (Nat.le_of_ble_eq_true rfl) (fun z41 σ1 h41 => ?_)
          exact R_iret hB hE rfl dX7_put_44 (Or.inr (Or.inl ⟨⟨hy, hf⟩, (by show fnd (σ 21) f i ≠ 0; omega), (by show z41 = -10 - fnd (σ 21) f i; rw [← h28]; exact h41.1), (by show σ1 = up σ 0 7 (fnd (σ 21) f i); rw [← h28]; exact h41.2), by rw [h41.2]; exact h.fnd (by omega)⟩))
    · have hno : ¬ ((0 ≤ s ∧ s < 4) ∧ (0 ≤ f ∧ f < 3)) := by split at h10 <;> omega
      refine R_bipush hB dX7_put_16 rfl ?_
      exact R_iret hB hE rfl dX7_put_18 (Or.inl ⟨hno, rfl, rfl⟩)

theorem s_get {Θ : Th} {σ : Mem} (s f i : Int) (hs : rng s) (hfr : rng f) (hi : rng i) (h : InvC σ) : Spc Θ M_X7_get 1 [.ref (Th.r Θ 0), .int (I s), .int (I f), .int (I i)] σ (fun r σ' => (¬ ((0 ≤ s ∧ s < 4) ∧ (0 ≤ f ∧ f < 3)) ∧ r = -2147483648 ∧ σ' = σ) ∨ (((0 ≤ s ∧ s < 4) ∧ (0 ≤ f ∧ f < 3)) ∧ fnd (σ (18 + s.toNat)) f i ≠ 0 ∧ r = -2147483648 ∧ σ' = up σ 0 7 (fnd (σ (18 + s.toNat)) f i) ∧ InvC σ') ∨ (((0 ≤ s ∧ s < 4) ∧ (0 ≤ f ∧ f < 3)) ∧ fnd (σ (18 + s.toNat)) f i = 0 ∧ r = σ (49 + s.toNat) i ∧ σ' = σ)) := by
  refine Spc_of (by decide +kernel) (Nat.le_of_ble_eq_true rfl) (fun Γ hB hE => ?_)
  show Run Θ Γ 0 [(0, .ref (Th.r Θ 0)), (1, .int (I s)), (2, .int (I f)), (3, .int (I i))] [] σ
  refine R_iload_n hB (j := 1) dX7_get_0 rfl rfl ?_
  refine R_iconst hB dX7_get_1 ?_
  refine P_cS1 hB (s_within _ _ (by omega) (by omega)) ms_X7_89 (by decide) dX7_get_2 rfl rfl (Nat.le_of_ble_eq_true rfl) (fun z2 h2 => ?_)
  refine R_if_eq hB 16 (by rw [h2]; split <;> omega) dX7_get_5 rfl (fun h5 => ?_) (fun h5 => ?_)
  · have hno : ¬ ((0 ≤ s ∧ s < 4) ∧ (0 ≤ f ∧ f < 3)) := by split at h2 <;> omega
    refine R_ldcw hB dX7_get_16 kc_X7_310 ?_
    exact R_iret hB hE rfl dX7_get_19 (Or.inl ⟨hno, rfl, rfl⟩)
  · have hy : 0 ≤ s ∧ s < 4 := by split at h2 <;> omega
    refine R_iload_n hB (j := 2) dX7_get_8 rfl rfl ?_
    refine R_iconst hB dX7_get_9 ?_
    refine P_cS1 hB (s_within _ _ (by omega) (by omega)) ms_X7_89 (by decide) dX7_get_10 rfl rfl (Nat.le_of_ble_eq_true rfl) (fun z10 h10 => ?_)
    refine R_if_ne hB 20 (by rw [h10]; split <;> omega) dX7_get_13 rfl (fun h13 => ?_) (fun h13 => ?_)
    · have hf : 0 ≤ f ∧ f < 3 := by split at h10 <;> omega
      rcases (show s = 0 ∨ s = 1 ∨ s = 2 ∨ s = 3 by omega) with rfl | rfl | rfl | rfl
      · show Run Θ Γ 20 [(0, .ref (Th.r Θ 0)), (1, .int (I 0)), (2, .int (I f)), (3, .int (I i))] [] σ
        refine R_aload_n hB (j := 0) dX7_get_20 rfl rfl ?_
        refine R_aload_n hB (j := 0) dX7_get_21 rfl rfl ?_
        refine R_getr hB (24) fl_X7_41 dX7_get_22 rfl rfl ?_
        refine R_iload_n hB (j := 1) dX7_get_25 rfl rfl ?_
        refine R_aald hB (18) rfl (by decide) (by omega) rfl dX7_get_26 ?_
        refine R_iload_n hB (j := 2) dX7_get_27 rfl rfl ?_
        refine R_iload_n hB (j := 3) dX7_get_28 rfl rfl ?_
        have hq : (σ 18 1 = 0 ∨ σ 18 1 = 1) ∧ (0 ≤ σ 18 2 ∧ σ 18 2 < 3) ∧ (0 ≤ σ 18 3 ∧ σ 18 3 ≤ 60) := h.2.2.2.2.2.1 0 (by decide)
        refine P_cV1 hB (s_findingAt_0 f i hfr hi hq) mv_X7_303 rfl rfl (by decide) dX7_get_29 rfl rfl (Nat.le_of_ble_eq_true rfl) (fun z29 h29 => ?_)
        have hfn := fnd_in (σ 18) f i
        rw [← h29] at hfn
        refine R_istore hB (L' := [_, _, _, _, _]) dX7_get_32 (Nat.le_of_ble_eq_true rfl) rfl ?_
        refine R_iload hB (j := 0) dX7_get_34 rfl ?_
        refine R_if_eq hB 49 (by omega) dX7_get_36 rfl (fun h36 => ?_) (fun h36 => ?_)
        · have hin : 0 ≤ i ∧ i < σ 18 3 := by
            have hz : fnd (σ 18) f i = 0 := by omega
            unfold fnd at hz
            (repeat split at hz) <;> omega
          refine R_aload_n hB (j := 1) dX7_get_49 rfl rfl ?_
          refine R_getr hB (24) fl_X7_41 dX7_get_50 rfl rfl ?_
          refine R_iload_n hB (j := 2) dX7_get_53 rfl rfl ?_
          refine R_aald hB (18) rfl (by decide) (by omega) rfl dX7_get_54 ?_
          refine R_getr hB (49) fl_X7_241 dX7_get_55 rfl rfl ?_
          refine R_iload_n hB (j := 4) dX7_get_58 rfl rfl ?_
          refine R_iald hB rfl (by omega) dX7_get_59 ?_
          exact R_iret hB hE rfl dX7_get_60 (Or.inr (Or.inr ⟨⟨hy, hf⟩, (by show fnd (σ 18) f i = 0; omega), rfl, rfl⟩))
        · refine R_aload_n hB (j := 1) dX7_get_39 rfl rfl ?_
          refine R_iload hB (j := 0) dX7_get_40 rfl ?_
          refine N_puti hB fp_X7_294 dX7_get_42 rfl (by omega) (fun σ1 e1 => ?_)
          refine R_ldcw hB dX7_get_45 kc_X7_310 ?_
          exact R_iret hB hE rfl dX7_get_48 (Or.inr (Or.inl ⟨⟨hy, hf⟩, (by show fnd (σ 18) f i ≠ 0; omega), rfl, (by show σ1 = up σ 0 7 (fnd (σ 18) f i); rw [← h29]; exact e1), by rw [e1]; exact h.fnd (by omega)⟩))
      · show Run Θ Γ 20 [(0, .ref (Th.r Θ 0)), (1, .int (I 1)), (2, .int (I f)), (3, .int (I i))] [] σ
        refine R_aload_n hB (j := 0) dX7_get_20 rfl rfl ?_
        refine R_aload_n hB (j := 0) dX7_get_21 rfl rfl ?_
        refine R_getr hB (24) fl_X7_41 dX7_get_22 rfl rfl ?_
        refine R_iload_n hB (j := 1) dX7_get_25 rfl rfl ?_
        refine R_aald hB (19) rfl (by decide) (by omega) rfl dX7_get_26 ?_
        refine R_iload_n hB (j := 2) dX7_get_27 rfl rfl ?_
        refine R_iload_n hB (j := 3) dX7_get_28 rfl rfl ?_
        have hq : (σ 19 1 = 0 ∨ σ 19 1 = 1) ∧ (0 ≤ σ 19 2 ∧ σ 19 2 < 3) ∧ (0 ≤ σ 19 3 ∧ σ 19 3 ≤ 60) := h.2.2.2.2.2.1 1 (by decide)
        refine P_cV1 hB (s_findingAt_1 f i hfr hi hq) mv_X7_303 rfl rfl (by decide) dX7_get_29 rfl rfl (Nat.le_of_ble_eq_true rfl) (fun z29 h29 => ?_)
        have hfn := fnd_in (σ 19) f i
        rw [← h29] at hfn
        refine R_istore hB (L' := [_, _, _, _, _]) dX7_get_32 (Nat.le_of_ble_eq_true rfl) rfl ?_
        refine R_iload hB (j := 0) dX7_get_34 rfl ?_
        refine R_if_eq hB 49 (by omega) dX7_get_36 rfl (fun h36 => ?_) (fun h36 => ?_)
        · have hin : 0 ≤ i ∧ i < σ 19 3 := by
            have hz : fnd (σ 19) f i = 0 := by omega
            unfold fnd at hz
            (repeat split at hz) <;> omega
          refine R_aload_n hB (j := 1) dX7_get_49 rfl rfl ?_
          refine R_getr hB (24) fl_X7_41 dX7_get_50 rfl rfl ?_
          refine R_iload_n hB (j := 2) dX7_get_53 rfl rfl ?_
          refine R_aald hB (19) rfl (by decide) (by omega) rfl dX7_get_54 ?_
          refine R_getr hB (50) fl_X7_241 dX7_get_55 rfl rfl ?_
          refine R_iload_n hB (j := 4) dX7_get_58 rfl rfl ?_
          refine R_iald hB rfl (by omega) dX7_get_59 ?_
          exact R_iret hB hE rfl dX7_get_60 (Or.inr (Or.inr ⟨⟨hy, hf⟩, (by show fnd (σ 19) f i = 0; omega), rfl, rfl⟩))
        · refine R_aload_n hB (j := 1) dX7_get_39 rfl rfl ?_
          refine R_iload hB (j := 0) dX7_get_40 rfl ?_
          refine N_puti hB fp_X7_294 dX7_get_42 rfl (by omega) (fun σ1 e1 => ?_)
          refine R_ldcw hB dX7_get_45 kc_X7_310 ?_
          exact R_iret hB hE rfl dX7_get_48 (Or.inr (Or.inl ⟨⟨hy, hf⟩, (by show fnd (σ 19) f i ≠ 0; omega), rfl, (by show σ1 = up σ 0 7 (fnd (σ 19) f i); rw [← h29]; exact e1), by rw [e1]; exact h.fnd (by omega)⟩))
      · show Run Θ Γ 20 [(0, .ref (Th.r Θ 0)), (1, .int (I 2)), (2, .int (I f)), (3, .int (I i))] [] σ
        refine R_aload_n hB (j := 0) dX7_get_20 rfl rfl ?_
        refine R_aload_n hB (j := 0) dX7_get_21 rfl rfl ?_
        refine R_getr hB (24) fl_X7_41 dX7_get_22 rfl rfl ?_
        refine R_iload_n hB (j := 1) dX7_get_25 rfl rfl ?_
        refine R_aald hB (20) rfl (by decide) (by omega) rfl dX7_get_26 ?_
        refine R_iload_n hB (j := 2) dX7_get_27 rfl rfl ?_
        refine R_iload_n hB (j := 3) dX7_get_28 rfl rfl ?_
        have hq : (σ 20 1 = 0 ∨ σ 20 1 = 1) ∧ (0 ≤ σ 20 2 ∧ σ 20 2 < 3) ∧ (0 ≤ σ 20 3 ∧ σ 20 3 ≤ 60) := h.2.2.2.2.2.1 2 (by decide)
        refine P_cV1 hB (s_findingAt_2 f i hfr hi hq) mv_X7_303 rfl rfl (by decide) dX7_get_29 rfl rfl (Nat.le_of_ble_eq_true rfl) (fun z29 h29 => ?_)
        have hfn := fnd_in (σ 20) f i
        rw [← h29] at hfn
        refine R_istore hB (L' := [_, _, _, _, _]) dX7_get_32 (Nat.le_of_ble_eq_true rfl) rfl ?_
        refine R_iload hB (j := 0) dX7_get_34 rfl ?_
        refine R_if_eq hB 49 (by omega) dX7_get_36 rfl (fun h36 => ?_) (fun h36 => ?_)
        · have hin : 0 ≤ i ∧ i < σ 20 3 := by
            have hz : fnd (σ 20) f i = 0 := by omega
            unfold fnd at hz
            (repeat split at hz) <;> omega
          refine R_aload_n hB (j := 1) dX7_get_49 rfl rfl ?_
          refine R_getr hB (24) fl_X7_41 dX7_get_50 rfl rfl ?_
          refine R_iload_n hB (j := 2) dX7_get_53 rfl rfl ?_
          refine R_aald hB (20) rfl (by decide) (by omega) rfl dX7_get_54 ?_
          refine R_getr hB (51) fl_X7_241 dX7_get_55 rfl rfl ?_
          refine R_iload_n hB (j := 4) dX7_get_58 rfl rfl ?_
          refine R_iald hB rfl (by omega) dX7_get_59 ?_
          exact R_iret hB hE rfl dX7_get_60 (Or.inr (Or.inr ⟨⟨hy, hf⟩, (by show fnd (σ 20) f i = 0; omega), rfl, rfl⟩))
        · refine R_aload_n hB (j := 1) dX7_get_39 rfl rfl ?_
          refine R_iload hB (j := 0) dX7_get_40 rfl ?_
          refine N_puti hB fp_X7_294 dX7_get_42 rfl (by omega) (fun σ1 e1 => ?_)
          refine R_ldcw hB dX7_get_45 kc_X7_310 ?_
          exact R_iret hB hE rfl dX7_get_48 (Or.inr (Or.inl ⟨⟨hy, hf⟩, (by show fnd (σ 20) f i ≠ 0; omega), rfl, (by show σ1 = up σ 0 7 (fnd (σ 20) f i); rw [← h29]; exact e1), by rw [e1]; exact h.fnd (by omega)⟩))
      · show Run Θ Γ 20 [(0, .ref (Th.r Θ 0)), (1, .int (I 3)), (2, .int (I f)), (3, .int (I i))] [] σ
        refine R_aload_n hB (j := 0) dX7_get_20 rfl rfl ?_
        refine R_aload_n hB (j := 0) dX7_get_21 rfl rfl ?_
        refine R_getr hB (24) fl_X7_41 dX7_get_22 rfl rfl ?_
        refine R_iload_n hB (j := 1) dX7_get_25 rfl rfl ?_
        refine R_aald hB (21) rfl (by decide) (by omega) rfl dX7_get_26 ?_
        refine R_iload_n hB (j := 2) dX7_get_27 rfl rfl ?_
        refine R_iload_n hB (j := 3) dX7_get_28 rfl rfl ?_
        have hq : (σ 21 1 = 0 ∨ σ 21 1 = 1) ∧ (0 ≤ σ 21 2 ∧ σ 21 2 < 3) ∧ (0 ≤ σ 21 3 ∧ σ 21 3 ≤ 60) := h.2.2.2.2.2.1 3 (by decide)
        refine P_cV1 hB (s_findingAt_3 f i hfr hi hq) mv_X7_303 rfl rfl (by decide) dX7_get_29 rfl rfl (Nat.le_of_ble_eq_true rfl) (fun z29 h29 => ?_)
        have hfn := fnd_in (σ 21) f i
        rw [← h29] at hfn
        refine R_istore hB (L' := [_, _, _, _, _]) dX7_get_32 (Nat.le_of_ble_eq_true rfl) rfl ?_
        refine R_iload hB (j := 0) dX7_get_34 rfl ?_
        refine R_if_eq hB 49 (by omega) dX7_get_36 rfl (fun h36 => ?_) (fun h36 => ?_)
        · have hin : 0 ≤ i ∧ i < σ 21 3 := by
            have hz : fnd (σ 21) f i = 0 := by omega
            unfold fnd at hz
            (repeat split at hz) <;> omega
          refine R_aload_n hB (j := 1) dX7_get_49 rfl rfl ?_
          refine R_getr hB (24) fl_X7_41 dX7_get_50 rfl rfl ?_
          refine R_iload_n hB (j := 2) dX7_get_53 rfl rfl ?_
          refine R_aald hB (21) rfl (by decide) (by omega) rfl dX7_get_54 ?_
          refine R_getr hB (52) fl_X7_241 dX7_get_55 rfl rfl ?_
          refine R_iload_n hB (j := 4) dX7_get_58 rfl rfl ?_
          refine R_iald hB rfl (by omega) dX7_get_59 ?_
          exact R_iret hB hE rfl dX7_get_60 (Or.inr (Or.inr ⟨⟨hy, hf⟩, (by show fnd (σ 21) f i = 0; omega), rfl, rfl⟩))
        · refine R_aload_n hB (j := 1) dX7_get_39 rfl rfl ?_
          refine R_iload hB (j := 0) dX7_get_40 rfl ?_
          refine N_puti hB fp_X7_294 dX7_get_42 rfl (by omega) (fun σ1 e1 => ?_)
          refine R_ldcw hB dX7_get_45 kc_X7_310 ?_
          exact R_iret hB hE rfl dX7_get_48 (Or.inr (Or.inl ⟨⟨hy, hf⟩, (by show fnd (σ 21) f i ≠ 0; omega), rfl, (by show σ1 = up σ 0 7 (fnd (σ 21) f i); rw [← h29]; exact e1), by rw [e1]; exact h.fnd (by omega)⟩))
    · have hno : ¬ ((0 ≤ s ∧ s < 4) ∧ (0 ≤ f ∧ f < 3)) := by split at h10 <;> omega
      refine R_ldcw hB dX7_get_16 kc_X7_310 ?_
      exact R_iret hB hE rfl dX7_get_19 (Or.inl ⟨hno, rfl, rfl⟩)
