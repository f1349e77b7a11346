def mshQ (σ σ' : Mem) (s f n : Int) : Prop := (∀ i, i ∉ [73, 74, 75, 76] → σ' i = σ i) ∧ (∀ x, σ' 73 x = if x = s then 1 else σ 73 x) ∧ (∀ x, σ' 74 x = if x = s then f else σ 74 x) ∧ (∀ x, σ' 75 x = if x = s then n else σ 75 x) ∧ ∀ x, σ' 76 x = if 60 * s ≤ x ∧ x < 60 * s + 60 then 0 else σ 76 x

theorem s_msheet {Θ : Th} {σ : Mem} (s f n : Int) (hs : rng s) (hfr : rng f) (hn : rng n) : Spc Θ M_X8_sheet 1 [.ref (Th.r Θ 1), .int (I s), .int (I f), .int (I n)] σ (fun r σ' => (¬ ((0 ≤ s ∧ s < 4) ∧ (0 ≤ f ∧ f < 3) ∧ n ≤ 60) ∧ r = -2 ∧ σ' = σ) ∨ (((0 ≤ s ∧ s < 4) ∧ (0 ≤ f ∧ f < 3) ∧ n ≤ 60) ∧ n < 0 ∧ r = -10 - 5 ∧ σ' = up σ 1 33 5) ∨ (((0 ≤ s ∧ s < 4) ∧ (0 ≤ f ∧ f < 3) ∧ n ≤ 60) ∧ 0 ≤ n ∧ r = n ∧ mshQ σ σ' s f n)) := by
  refine Spc_of (by decide +kernel) (Nat.le_of_ble_eq_true rfl) (fun Γ hB hE => ?_)
  show Run Θ Γ 0 [(0, .ref (Th.r Θ 1)), (1, .int (I s)), (2, .int (I f)), (3, .int (I n))] [] σ
  refine R_iload_n hB (j := 1) dX8_sheet_0 rfl rfl ?_
  refine P_cS1 hB (s_misSheet _ (by omega)) ms_X8_238 (by decide) dX8_sheet_1 rfl rfl (Nat.le_of_ble_eq_true rfl) (fun z1 h1 => ?_)
  refine R_if_eq hB 22 (by rw [h1]; split <;> omega) dX8_sheet_4 rfl (fun h4 => ?_) (fun h4 => ?_)
  · have hc : ¬ (0 ≤ s ∧ s < 4) := fun q => by
      rw [if_pos q] at h1
      omega
    refine R_bipush hB dX8_sheet_22 rfl ?_
    exact R_iret hB hE rfl dX8_sheet_24 (Or.inl ⟨by omega, rfl, rfl⟩)
  · have hc : 0 ≤ s ∧ s < 4 := by
      by_cases q : 0 ≤ s ∧ s < 4
      · exact q
      · rw [if_neg q] at h1; omega
    refine R_iload_n hB (j := 2) dX8_sheet_7 rfl rfl ?_
    refine R_iconst hB dX8_sheet_8 ?_
    refine R_iconst hB dX8_sheet_9 ?_
    refine P_cS1 hB (s_in _ _ _ (by omega) (by omega) (by omega)) ms_X8_98 (by decide) dX8_sheet_10 rfl rfl (Nat.le_of_ble_eq_true rfl) (fun z10 h10 => ?_)
    refine R_if_eq hB 22 (by rw [h10]; split <;> omega) dX8_sheet_13 rfl (fun h13 => ?_) (fun h13 => ?_)
    · have hd : ¬ (0 ≤ f ∧ f ≤ 2) := fun q => by
        rw [if_pos q] at h10
        omega
      refine R_bipush hB dX8_sheet_22 rfl ?_
      exact R_iret hB hE rfl dX8_sheet_24 (Or.inl ⟨by omega, rfl, rfl⟩)
    · have hd : 0 ≤ f ∧ f ≤ 2 := by
        by_cases q : 0 ≤ f ∧ f ≤ 2
        · exact q
        · rw [if_neg q] at h10; omega
      refine R_iload_n hB (j := 3) dX8_sheet_16 rfl rfl ?_
      refine R_bipush hB dX8_sheet_17 rfl ?_
      refine R_icmp_le hB 25 (by omega) (by omega) dX8_sheet_19 rfl (fun h19 => ?_) (fun h19 => ?_)
      · refine R_iload_n hB (j := 3) dX8_sheet_25 rfl rfl ?_
        refine R_if_ge hB 35 (by omega) dX8_sheet_26 rfl (fun h26 => ?_) (fun h26 => ?_)
        · refine R_aload_n hB (j := 0) dX8_sheet_35 rfl rfl ?_
          refine R_getr hB (73) fl_X8_71 dX8_sheet_36 rfl rfl ?_
          refine R_iload_n hB (j := 1) dX8_sheet_39 rfl rfl ?_
          refine R_iconst hB dX8_sheet_40 ?_
          refine N_zast hB rfl (by omega) (by omega) dX8_sheet_41 (fun σ1 e1 => ?_)
          refine R_aload_n hB (j := 0) dX8_sheet_42 rfl rfl ?_
          refine R_getr hB (74) fl_X8_74 dX8_sheet_43 rfl rfl ?_
          refine R_iload_n hB (j := 1) dX8_sheet_46 rfl rfl ?_
          refine R_iload_n hB (j := 2) dX8_sheet_47 rfl rfl ?_
          refine N_iast hB rfl (by omega) (by omega) dX8_sheet_48 (fun σ2 e2 => ?_)
          refine R_aload_n hB (j := 0) dX8_sheet_49 rfl rfl ?_
          refine R_getr hB (75) fl_X8_77 dX8_sheet_50 rfl rfl ?_
          refine R_iload_n hB (j := 1) dX8_sheet_53 rfl rfl ?_
          refine R_iload_n hB (j := 3) dX8_sheet_54 rfl rfl ?_
          refine N_iast hB rfl (by omega) (by omega) dX8_sheet_55 (fun σ3 e3 => ?_)
          have g3 : ∀ i, i ∉ [73, 74, 75, 76] → σ3 i = σ i := fun i hi => by
            simp only [List.mem_cons, List.not_mem_nil, or_false, not_or] at hi
            rw [e3, up_row hi.2.2.1, e2, up_row hi.2.1, e1, up_row hi.1]
          have g73 : ∀ x, σ3 73 x = if x = s then 1 else σ 73 x := fun x => by rw [e3, up_i (by decide), e2, up_i (by decide), e1]; simp only [up, true_and]
          have g74 : ∀ x, σ3 74 x = if x = s then f else σ 74 x := fun x => by rw [e3, up_i (by decide), e2]; simp only [up, true_and]; rw [e1, up_row (by decide)]
          have g75 : ∀ x, σ3 75 x = if x = s then n else σ 75 x := fun x => by rw [e3]; simp only [up, true_and]; rw [e2, up_row (by decide), e1, up_row (by decide)]
          have g76 : σ3 76 = σ 76 := by rw [e3, up_row (by decide), e2, up_row (by decide), e1, up_row (by decide)]
          refine R_iconst hB dX8_sheet_56 ?_
          refine R_istore hB (L' := [_, _, _, _, _]) dX8_sheet_57 (Nat.le_of_ble_eq_true rfl) rfl ?_
          have lp_59 : ∀ (n_59 : Nat) (i : Int) (σ4 : Mem), ((60 - i).toNat) < n_59 → (0 ≤ i ∧ i ≤ 60) → (∀ j, j ≠ 76 → σ4 j = σ3 j) → (∀ x, σ4 76 x = if 60 * s ≤ x ∧ x < 60 * s + i then 0 else σ 76 x) → Run Θ Γ 59 [(0, .ref (Th.r Θ 1)), (1, .int (I s)), (2, .int (I f)), (3, .int (I n)), (4, .int (I i))] [] σ4 := by
            intro n_59
            induction n_59 with
            | zero => intro i σ4 h_m; exact absurd h_m (Nat.not_lt_zero _)
            | succ n_59 ih_59 =>
              intro i σ4 h_m hi hO hZ
              refine R_iload hB (j := 4) dX8_sheet_59 rfl ?_
              refine R_bipush hB dX8_sheet_61 rfl ?_
              refine R_icmp_ge hB 85 (by omega) (by omega) dX8_sheet_63 rfl (fun h63 => ?_) (fun h63 => ?_)
              · refine R_iload_n hB (j := 3) dX8_sheet_85 rfl rfl ?_
                exact R_iret hB hE rfl dX8_sheet_86 (Or.inr (Or.inr ⟨by omega, by omega, rfl, fun i hi => by rw [hO i (fun q => hi (by rw [q]; decide))]; exact g3 i hi, fun x => by rw [hO 73 (by decide)]; exact g73 x, fun x => by rw [hO 74 (by decide)]; exact g74 x, fun x => by rw [hO 75 (by decide)]; exact g75 x, fun x => by rw [hZ x, show i = 60 by omega]⟩))
              · refine R_aload_n hB (j := 0) dX8_sheet_66 rfl rfl ?_
                refine R_getr hB (76) fl_X8_80 dX8_sheet_67 rfl rfl ?_
                refine R_bipush hB dX8_sheet_70 rfl ?_
                refine R_iload_n hB (j := 1) dX8_sheet_72 rfl rfl ?_
                refine R_imul hB dX8_sheet_73 ?_
                refine R_iload hB (j := 4) dX8_sheet_74 rfl ?_
                refine R_iadd hB dX8_sheet_76 ?_
                refine R_iconst hB dX8_sheet_77 ?_
                refine N_iast hB rfl (by omega) (by omega) dX8_sheet_78 (fun σ5 e5 => ?_)
                refine R_iinc hB (j := 4) (L' := [_, _, _, _, _]) dX8_sheet_79 rfl (Nat.le_of_ble_eq_true rfl) rfl ?_
                refine R_goto hB 59 dX8_sheet_82 rfl ?_
                exact R_sub [1, 2, 3, 4, 0] rfl (ih_59 _ _ (by omega) (by omega) (fun j hj => by rw [e5, up_row hj]; exact hO j hj) (fun x => by
                  rw [e5]
                  by_cases c : x = 60 * s + i
                  · rw [c, up_s, if_pos (by omega)]
                  · rw [up_n (fun q => c q.2), hZ x]
                    by_cases c2 : 60 * s ≤ x ∧ x < 60 * s + i
                    · rw [if_pos c2, if_pos (by omega)]
                    · rw [if_neg c2, if_neg (by omega)]))
          exact R_sub [1, 2, 3, 4, 0] rfl (lp_59 _ _ _ (Nat.lt_succ_self _) (by omega) (fun _ _ => rfl) (fun x => by rw [if_neg (by omega), g76]))
        · refine R_aload_n hB (j := 0) dX8_sheet_29 rfl rfl ?_
          refine R_iconst hB dX8_sheet_30 ?_
          refine R_cV1 hB (s_meets 5 (by omega)) mv_X8_241 rfl rfl (by decide) dX8_sheet_31 rfl rfl (Nat.le_of_ble_eq_true rfl) (fun z31 σ9 h31 => ?_)
          exact R_iret hB hE rfl dX8_sheet_34 (Or.inr (Or.inl ⟨by omega, h26, h31.1, h31.2⟩))
      · refine R_bipush hB dX8_sheet_22 rfl ?_
        exact R_iret hB hE rfl dX8_sheet_24 (Or.inl ⟨by omega, rfl, rfl⟩)

theorem s_mlose {Θ : Th} {σ : Mem} (s : Int) (hs : rng s) (hS : ∀ s, 0 ≤ s → s < 4 → (σ 73 s = 0 ∨ σ 73 s = 1) ∧ (0 ≤ σ 74 s ∧ σ 74 s < 3) ∧ (0 ≤ σ 75 s ∧ σ 75 s ≤ 60)) : Spc Θ M_X8_lose 1 [.ref (Th.r Θ 1), .int (I s)] σ (fun r σ' => (¬ (0 ≤ s ∧ s < 4) ∧ r = -2 ∧ σ' = σ) ∨ ((0 ≤ s ∧ s < 4) ∧ σ 73 s = 0 ∧ r = -10 - 1 ∧ σ' = up σ 1 33 1) ∨ ((0 ≤ s ∧ s < 4) ∧ σ 73 s ≠ 0 ∧ r = σ 75 s ∧ σ' = up σ 73 s 0)) := by
  refine Spc_of (by decide +kernel) (Nat.le_of_ble_eq_true rfl) (fun Γ hB hE => ?_)
  show Run Θ Γ 0 [(0, .ref (Th.r Θ 1)), (1, .int (I s))] [] σ
  refine R_iload_n hB (j := 1) dX8_lose_0 rfl rfl ?_
  refine P_cS1 hB (s_misSheet _ (by omega)) ms_X8_238 (by decide) dX8_lose_1 rfl rfl (Nat.le_of_ble_eq_true rfl) (fun z1 h1 => ?_)
  refine R_if_ne hB 10 (by rw [h1]; split <;> omega) dX8_lose_4 rfl (fun h4 => ?_) (fun h4 => ?_)
  · have hc : 0 ≤ s ∧ s < 4 := by
      by_cases q : 0 ≤ s ∧ s < 4
      · exact q
      · rw [if_neg q] at h1; omega
    have hS1 := hS s hc.1 hc.2
    refine R_aload_n hB (j := 0) dX8_lose_10 rfl rfl ?_
    refine R_getr hB (73) fl_X8_71 dX8_lose_11 rfl rfl ?_
    refine R_iload_n hB (j := 1) dX8_lose_14 rfl rfl ?_
    refine R_zald hB rfl (by omega) dX8_lose_15 ?_
    refine R_if_ne hB 25 (by omega) dX8_lose_16 rfl (fun h16 => ?_) (fun h16 => ?_)
    · refine R_aload_n hB (j := 0) dX8_lose_25 rfl rfl ?_
      refine R_getr hB (73) fl_X8_71 dX8_lose_26 rfl rfl ?_
      refine R_iload_n hB (j := 1) dX8_lose_29 rfl rfl ?_
      refine R_iconst hB dX8_lose_30 ?_
      refine N_zast hB rfl (by omega) (by omega) dX8_lose_31 (fun σ1 e1 => ?_)
      refine R_aload_n hB (j := 0) dX8_lose_32 rfl rfl ?_
      refine R_getr hB (75) fl_X8_77 dX8_lose_33 rfl rfl ?_
      refine R_iload_n hB (j := 1) dX8_lose_36 rfl rfl ?_
      refine R_iald hB rfl (by omega) dX8_lose_37 ?_
      exact R_iret hB hE rfl dX8_lose_38 (Or.inr (Or.inr ⟨hc, h16, by rw [e1, up_i (by decide)], e1⟩))
    · refine R_aload_n hB (j := 0) dX8_lose_19 rfl rfl ?_
      refine R_iconst hB dX8_lose_20 ?_
      refine R_cV1 hB (s_meets 1 (by omega)) mv_X8_241 rfl rfl (by decide) dX8_lose_21 rfl rfl (Nat.le_of_ble_eq_true rfl) (fun z21 σ9 h21 => ?_)
      exact R_iret hB hE rfl dX8_lose_24 (Or.inr (Or.inl ⟨hc, h16, h21.1, h21.2⟩))
  · have hc : ¬ (0 ≤ s ∧ s < 4) := fun q => by
      rw [if_pos q] at h1
      omega
    refine R_bipush hB dX8_lose_7 rfl ?_
    exact R_iret hB hE rfl dX8_lose_9 (Or.inl ⟨hc, rfl, rfl⟩)

theorem s_lacks {Θ : Th} {σ : Mem} (s f i : Int) (hc : 0 ≤ s ∧ s < 4) (hf : rng f) (hi : rng i) (hS : ∀ s, 0 ≤ s → s < 4 → (σ 73 s = 0 ∨ σ 73 s = 1) ∧ (0 ≤ σ 74 s ∧ σ 74 s < 3) ∧ (0 ≤ σ 75 s ∧ σ 75 s ≤ 60)) : Spc Θ M_X8_lacks 1 [.ref (Th.r Θ 1), .int (I s), .int (I f), .int (I i)] σ (Pu σ (fun z => z = lkM σ s f i)) := by
  refine Spc_of (by decide +kernel) (Nat.le_of_ble_eq_true rfl) (fun Γ hB hE => ?_)
  show Run Θ Γ 0 [(0, .ref (Th.r Θ 1)), (1, .int (I s)), (2, .int (I f)), (3, .int (I i))] [] σ
  have hS1 := hS s hc.1 hc.2
  refine R_aload_n hB (j := 0) dX8_lacks_0 rfl rfl ?_
  refine R_getr hB (73) fl_X8_71 dX8_lacks_1 rfl rfl ?_
  refine R_iload_n hB (j := 1) dX8_lacks_4 rfl rfl ?_
  refine R_zald hB rfl (by omega) dX8_lacks_5 ?_
  refine R_if_ne hB 13 (by omega) dX8_lacks_6 rfl (fun h6 => ?_) (fun h6 => ?_)
  · refine R_aload_n hB (j := 0) dX8_lacks_13 rfl rfl ?_
    refine R_getr hB (74) fl_X8_74 dX8_lacks_14 rfl rfl ?_
    refine R_iload_n hB (j := 1) dX8_lacks_17 rfl rfl ?_
    refine R_iald hB rfl (by omega) dX8_lacks_18 ?_
    refine R_iload_n hB (j := 2) dX8_lacks_19 rfl rfl ?_
    refine R_icmp_eq hB 27 (by omega) (by omega) dX8_lacks_20 rfl (fun h20 => ?_) (fun h20 => ?_)
    · refine R_iload_n hB (j := 3) dX8_lacks_27 rfl rfl ?_
      refine R_iconst hB dX8_lacks_28 ?_
      refine R_aload_n hB (j := 0) dX8_lacks_29 rfl rfl ?_
      refine R_getr hB (75) fl_X8_77 dX8_lacks_30 rfl rfl ?_
      refine R_iload_n hB (j := 1) dX8_lacks_33 rfl rfl ?_
      refine R_iald hB rfl (by omega) dX8_lacks_34 ?_
      refine R_iconst hB dX8_lacks_35 ?_
      refine R_isub hB dX8_lacks_36 ?_
      refine P_cS1 hB (s_in _ _ _ hi (by omega) (by omega)) ms_X8_98 (by decide) dX8_lacks_37 rfl rfl (Nat.le_of_ble_eq_true rfl) (fun z37 h37 => ?_)
      refine R_if_eq hB 47 (by rw [h37]; split <;> omega) dX8_lacks_40 rfl (fun h40 => ?_) (fun h40 => ?_)
      · have hd : ¬ (0 ≤ i ∧ i ≤ σ 75 s - 1) := fun q => by
          rw [if_pos q] at h37
          omega
        refine R_iconst hB dX8_lacks_47 ?_
        exact R_iret hB hE rfl dX8_lacks_48 (⟨rfl, by
          unfold lkM
          first
          | (rw [if_pos h6])
          | (rw [if_neg h6, if_pos h20])
          | (rw [if_neg h6, if_neg (fun q => q h20), if_pos (by omega)])
          | (rw [if_neg h6, if_neg (fun q => q h20), if_neg (by omega)])⟩)
      · have hd : 0 ≤ i ∧ i ≤ σ 75 s - 1 := by
          by_cases q : 0 ≤ i ∧ i ≤ σ 75 s - 1
          · exact q
          · rw [if_neg q] at h37; omega
        refine R_iconst hB dX8_lacks_43 ?_
        refine R_goto hB 48 dX8_lacks_44 rfl ?_
        exact R_iret hB hE rfl dX8_lacks_48 (⟨rfl, by
          unfold lkM
          first
          | (rw [if_pos h6])
          | (rw [if_neg h6, if_pos h20])
          | (rw [if_neg h6, if_neg (fun q => q h20), if_pos (by omega)])
          | (rw [if_neg h6, if_neg (fun q => q h20), if_neg (by omega)])⟩)
    · refine R_iconst hB dX8_lacks_23 ?_
      refine R_goto hB 48 dX8_lacks_24 rfl ?_
      exact R_iret hB hE rfl dX8_lacks_48 (⟨rfl, by
        unfold lkM
        first
        | (rw [if_pos h6])
        | (rw [if_neg h6, if_pos h20])
        | (rw [if_neg h6, if_neg (fun q => q h20), if_pos (by omega)])
        | (rw [if_neg h6, if_neg (fun q => q h20), if_neg (by omega)])⟩)
  · refine R_iconst hB dX8_lacks_9 ?_
    refine R_goto hB 48 dX8_lacks_10 rfl ?_
    exact R_iret hB hE rfl dX8_lacks_48 (⟨rfl, by
      unfold lkM
      first
      | (rw [if_pos h6])
      | (rw [if_neg h6, if_pos h20])
      | (rw [if_neg h6, if_neg (fun q => q h20), if_pos (by omega)])
      | (rw [if_neg h6, if_neg (fun q => q h20), if_neg (by omega)])⟩)

theorem s_keep {Θ : Th} {σ : Mem} (s i v : Int) (hc : 0 ≤ s ∧ s < 4) (hi : 0 ≤ i ∧ i < 60) (hv : rng v) (hf : 0 ≤ σ 74 s ∧ σ 74 s < 3) : Spc Θ M_X8_keep 0 [.ref (Th.r Θ 1), .int (I s), .int (I i), .int (I v)] σ (fun _ σ' => σ' = up σ 76 (60 * s + i) (cutF (σ 74 s) v)) := by
  refine Spc_of (by decide +kernel) (Nat.le_of_ble_eq_true rfl) (fun Γ hB hE => ?_)
  show Run Θ Γ 0 [(0, .ref (Th.r Θ 1)), (1, .int (I s)), (2, .int (I i)), (3, .int (I v))] [] σ
  refine R_aload_n hB (j := 0) dX8_keep_0 rfl rfl ?_
  refine R_getr hB (76) fl_X8_80 dX8_keep_1 rfl rfl ?_
  refine R_bipush hB dX8_keep_4 rfl ?_
  refine R_iload_n hB (j := 1) dX8_keep_6 rfl rfl ?_
  refine R_imul hB dX8_keep_7 ?_
  refine R_iload_n hB (j := 2) dX8_keep_8 rfl rfl ?_
  refine R_iadd hB dX8_keep_9 ?_
  refine R_aload_n hB (j := 0) dX8_keep_10 rfl rfl ?_
  refine R_getr hB (74) fl_X8_74 dX8_keep_11 rfl rfl ?_
  refine R_iload_n hB (j := 1) dX8_keep_14 rfl rfl ?_
  refine R_iald hB rfl (by omega) dX8_keep_15 ?_
  have jn_40 : ∀ (x : Int), (x = cutF (σ 74 s) v) → Run Θ Γ 40 [(0, .ref (Th.r Θ 1)), (1, .int (I s)), (2, .int (I i)), (3, .int (I v))] [.int (I x), .int (I (((60) * (s)) + (i))), .ref (Th.r Θ 76)] σ := by
    intro x hx
    refine N_iast hB rfl (by omega) (by rw [hx]; exact cutF_rng hv) dX8_keep_40 (fun σ1 e1 => ?_)
    exact R_vret hB hE rfl dX8_keep_41 (by rw [e1, hx])
  refine R_if_ne hB 24 (by omega) dX8_keep_16 rfl (fun h16 => ?_) (fun h16 => ?_)
  · refine R_aload_n hB (j := 0) dX8_keep_24 rfl rfl ?_
    refine R_getr hB (74) fl_X8_74 dX8_keep_25 rfl rfl ?_
    refine R_iload_n hB (j := 1) dX8_keep_28 rfl rfl ?_
    refine R_iald hB rfl (by omega) dX8_keep_29 ?_
    refine R_iconst hB dX8_keep_30 ?_
    refine R_icmp_ne hB 39 (by omega) (by omega) dX8_keep_31 rfl (fun h31 => ?_) (fun h31 => ?_)
    · refine R_iload_n hB (j := 3) dX8_keep_39 rfl rfl ?_
      exact R_sub [0, 1, 2, 3] rfl (jn_40 _ (by unfold cutF; rw [if_neg h16, if_neg h31]))
    · refine R_iload_n hB (j := 3) dX8_keep_34 rfl rfl ?_
      refine R_i2s hB (((I v).toInt16.toInt32).toInt) (I_of _).symm dX8_keep_35 ?_
      refine R_goto hB 40 dX8_keep_36 rfl ?_
      exact R_sub [0, 1, 2, 3] rfl (jn_40 _ (by unfold cutF; rw [if_neg h16, if_pos h31]))
  · refine R_iload_n hB (j := 3) dX8_keep_19 rfl rfl ?_
    refine R_i2b hB (((I v).toInt8.toInt32).toInt) (I_of _).symm dX8_keep_20 ?_
    refine R_goto hB 40 dX8_keep_21 rfl ?_
    exact R_sub [0, 1, 2, 3] rfl (jn_40 _ (by unfold cutF; rw [if_pos h16]))

theorem s_mput {Θ : Th} {σ : Mem} (s f i v : Int) (hs : rng s) (hfr : rng f) (hi : rng i) (hv : rng v) (hS : ∀ s, 0 ≤ s → s < 4 → (σ 73 s = 0 ∨ σ 73 s = 1) ∧ (0 ≤ σ 74 s ∧ σ 74 s < 3) ∧ (0 ≤ σ 75 s ∧ σ 75 s ≤ 60)) : Spc Θ M_X8_put 1 [.ref (Th.r Θ 1), .int (I s), .int (I f), .int (I i), .int (I v)] σ (fun r σ' => (¬ ((0 ≤ s ∧ s < 4) ∧ (0 ≤ f ∧ f < 3)) ∧ r = -2 ∧ σ' = σ) ∨ (((0 ≤ s ∧ s < 4) ∧ (0 ≤ f ∧ f < 3)) ∧ lkM σ s f i ≠ 0 ∧ r = -10 - lkM σ s f i ∧ σ' = up σ 1 33 (lkM σ s f i)) ∨ (((0 ≤ s ∧ s < 4) ∧ (0 ≤ f ∧ f < 3)) ∧ lkM σ s f i = 0 ∧ r = 1 ∧ σ' = up σ 76 (60 * s + i) (cutF (σ 74 s) v))) := by
  refine Spc_of (by decide +kernel) (Nat.le_of_ble_eq_true rfl) (fun Γ hB hE => ?_)
  show Run Θ Γ 0 [(0, .ref (Th.r Θ 1)), (1, .int (I s)), (2, .int (I f)), (3, .int (I i)), (4, .int (I v))] [] σ
  refine R_iload_n hB (j := 1) dX8_put_0 rfl rfl ?_
  refine P_cS1 hB (s_misSheet _ (by omega)) ms_X8_238 (by decide) dX8_put_1 rfl rfl (Nat.le_of_ble_eq_true rfl) (fun z1 h1 => ?_)
  refine R_if_eq hB 16 (by rw [h1]; split <;> omega) dX8_put_4 rfl (fun h4 => ?_) (fun h4 => ?_)
  · have hc : ¬ (0 ≤ s ∧ s < 4) := fun q => by
      rw [if_pos q] at h1
      omega
    refine R_bipush hB dX8_put_16 rfl ?_
    exact R_iret hB hE rfl dX8_put_18 (Or.inl ⟨by omega, rfl, rfl⟩)
  · have hc : 0 ≤ s ∧ s < 4 := by
      by_cases q : 0 ≤ s ∧ s < 4
      · exact q
      · rw [if_neg q] at h1; omega
    refine R_iload_n hB (j := 2) dX8_put_7 rfl rfl ?_
    refine R_iconst hB dX8_put_8 ?_
    refine R_iconst hB dX8_put_9 ?_
    refine P_cS1 hB (s_in _ _ _ (by omega) (by omega) (by omega)) ms_X8_98 (by decide) dX8_put_10 rfl rfl (Nat.le_of_ble_eq_true rfl) (fun z10 h10 => ?_)
    refine R_if_ne hB 19 (by rw [h10]; split <;> omega) dX8_put_13 rfl (fun h13 => ?_) (fun h13 => ?_)
    · have hd : 0 ≤ f ∧ f ≤ 2 := by
        by_cases q : 0 ≤ f ∧ f ≤ 2
        · exact q
        · rw [if_neg q] at h10; omega
      refine R_aload_n hB (j := 0) dX8_put_19 rfl rfl ?_
      refine R_iload_n hB (j := 1) dX8_put_20 rfl rfl ?_
      refine R_iload_n hB (j := 2) dX8_put_21 rfl rfl ?_
      refine R_iload_n hB (j := 3) dX8_put_22 rfl rfl ?_
      refine P_cV1 hB (s_lacks s f i hc hfr hi hS) mv_X8_285 rfl rfl (by decide) dX8_put_23 rfl rfl (Nat.le_of_ble_eq_true rfl) (fun z23 h23 => ?_)
      have hlb := lkM_in σ s f i
      rw [← h23] at hlb
      refine R_istore hB (L' := [_, _, _, _, _, _]) dX8_put_26 (Nat.le_of_ble_eq_true rfl) rfl ?_
      refine R_iload hB (j := 0) dX8_put_28 rfl ?_
      refine R_if_le hB 40 (by omega) dX8_put_30 rfl (fun h30 => ?_) (fun h30 => ?_)
      · have hl0 : lkM σ s f i = 0 := by omega
        have hS1 := hS s hc.1 hc.2
        have hib : 0 ≤ i ∧ i < σ 75 s := by
          unfold lkM at hl0
          repeat (first | omega | split at hl0)
        refine R_aload_n hB (j := 1) dX8_put_40 rfl rfl ?_
        refine R_iload_n hB (j := 2) dX8_put_41 rfl rfl ?_
        refine R_iload_n hB (j := 4) dX8_put_42 rfl rfl ?_
        refine R_iload hB (j := 5) dX8_put_43 rfl ?_
        refine R_cV0 hB (s_keep s i v hc (by omega) hv hS1.2.1) mv_X8_288 rfl rfl (by decide) dX8_put_45 rfl rfl (Nat.le_of_ble_eq_true rfl) (fun σ1 h45 => ?_)
        refine R_iconst hB dX8_put_48 ?_
        exact R_iret hB hE rfl dX8_put_49 (Or.inr (Or.inr ⟨by omega, hl0, rfl, h45⟩))
      · refine R_aload_n hB (j := 1) dX8_put_33 rfl rfl ?_
        refine R_iload hB (j := 0) dX8_put_34 rfl ?_
        refine R_cV1 hB (s_meets _ (by omega)) mv_X8_241 rfl rfl (by decide) dX8_put_36 rfl rfl (Nat.le_of_ble_eq_true rfl) (fun z36 σ9 h36 => ?_)
        exact R_iret hB hE rfl dX8_put_39 (Or.inr (Or.inl ⟨by omega, by omega, by rw [← h23]; exact h36.1, by rw [← h23]; exact h36.2⟩))
    · have hd : ¬ (0 ≤ f ∧ f ≤ 2) := fun q => by
        rw [if_pos q] at h10
        omega
      refine R_bipush hB dX8_put_16 rfl ?_
      exact R_iret hB hE rfl dX8_put_18 (Or.inl ⟨by omega, rfl, rfl⟩)

theorem s_mget {Θ : Th} {σ : Mem} (s f i : Int) (hs : rng s) (hfr : rng f) (hi : rng i) (hS : ∀ s, 0 ≤ s → s < 4 → (σ 73 s = 0 ∨ σ 73 s = 1) ∧ (0 ≤ σ 74 s ∧ σ 74 s < 3) ∧ (0 ≤ σ 75 s ∧ σ 75 s ≤ 60)) : Spc Θ M_X8_get 1 [.ref (Th.r Θ 1), .int (I s), .int (I f), .int (I i)] σ (fun r σ' => (¬ ((0 ≤ s ∧ s < 4) ∧ (0 ≤ f ∧ f < 3)) ∧ r = -2147483648 ∧ σ' = σ) ∨ (((0 ≤ s ∧ s < 4) ∧ (0 ≤ f ∧ f < 3)) ∧ lkM σ s f i ≠ 0 ∧ r = -2147483648 ∧ σ' = up σ 1 33 (lkM σ s f i)) ∨ (((0 ≤ s ∧ s < 4) ∧ (0 ≤ f ∧ f < 3)) ∧ lkM σ s f i = 0 ∧ r = σ 76 (60 * s + i) ∧ σ' = σ)) := by
  refine Spc_of (by decide +kernel) (Nat.le_of_ble_eq_true rfl) (fun Γ hB hE => ?_)
  show Run Θ Γ 0 [(0, .ref (Th.r Θ 1)), (1, .int (I s)), (2, .int (I f)), (3, .int (I i))] [] σ
  refine R_iload_n hB (j := 1) dX8_get_0 rfl rfl ?_
  refine P_cS1 hB (s_misSheet _ (by omega)) ms_X8_238 (by decide) dX8_get_1 rfl rfl (Nat.le_of_ble_eq_true rfl) (fun z1 h1 => ?_)
  refine R_if_eq hB 16 (by rw [h1]; split <;> omega) dX8_get_4 rfl (fun h4 => ?_) (fun h4 => ?_)
  · have hc : ¬ (0 ≤ s ∧ s < 4) := fun q => by
      rw [if_pos q] at h1
      omega
    refine R_ldcw hB dX8_get_16 kc_X8_292 ?_
    exact R_iret hB hE rfl dX8_get_19 (Or.inl ⟨by omega, rfl, rfl⟩)
  · have hc : 0 ≤ s ∧ s < 4 := by
      by_cases q : 0 ≤ s ∧ s < 4
      · exact q
      · rw [if_neg q] at h1; omega
    refine R_iload_n hB (j := 2) dX8_get_7 rfl rfl ?_
    refine R_iconst hB dX8_get_8 ?_
    refine R_iconst hB dX8_get_9 ?_
    refine P_cS1 hB (s_in _ _ _ (by omega) (by omega) (by omega)) ms_X8_98 (by decide) dX8_get_10 rfl rfl (Nat.le_of_ble_eq_true rfl) (fun z10 h10 => ?_)
    refine R_if_ne hB 20 (by rw [h10]; split <;> omega) dX8_get_13 rfl (fun h13 => ?_) (fun h13 => ?_)
    · have hd : 0 ≤ f ∧ f ≤ 2 := by
        by_cases q : 0 ≤ f ∧ f ≤ 2
        · exact q
        · rw [if_neg q] at h10; omega
      refine R_aload_n hB (j := 0) dX8_get_20 rfl rfl ?_
      refine R_iload_n hB (j := 1) dX8_get_21 rfl rfl ?_
      refine R_iload_n hB (j := 2) dX8_get_22 rfl rfl ?_
      refine R_iload_n hB (j := 3) dX8_get_23 rfl rfl ?_
      refine P_cV1 hB (s_lacks s f i hc hfr hi hS) mv_X8_285 rfl rfl (by decide) dX8_get_24 rfl rfl (Nat.le_of_ble_eq_true rfl) (fun z24 h24 => ?_)
      have hlb := lkM_in σ s f i
      rw [← h24] at hlb
      refine R_istore hB (L' := [_, _, _, _, _]) dX8_get_27 (Nat.le_of_ble_eq_true rfl) rfl ?_
      refine R_iload hB (j := 0) dX8_get_29 rfl ?_
      refine R_if_le hB 44 (by omega) dX8_get_31 rfl (fun h31 => ?_) (fun h31 => ?_)
      · have hl0 : lkM σ s f i = 0 := by omega
        have hS1 := hS s hc.1 hc.2
        have hib : 0 ≤ i ∧ i < σ 75 s := by
          unfold lkM at hl0
          repeat (first | omega | split at hl0)
        refine R_aload_n hB (j := 1) dX8_get_44 rfl rfl ?_
        refine R_getr hB (76) fl_X8_80 dX8_get_45 rfl rfl ?_
        refine R_bipush hB dX8_get_48 rfl ?_
        refine R_iload_n hB (j := 2) dX8_get_50 rfl rfl ?_
        refine R_imul hB dX8_get_51 ?_
        refine R_iload_n hB (j := 4) dX8_get_52 rfl rfl ?_
        refine R_iadd hB dX8_get_53 ?_
        refine R_iald hB rfl (by omega) dX8_get_54 ?_
        exact R_iret hB hE rfl dX8_get_55 (Or.inr (Or.inr ⟨by omega, hl0, rfl, rfl⟩))
      · refine R_aload_n hB (j := 1) dX8_get_34 rfl rfl ?_
        refine R_iload hB (j := 0) dX8_get_35 rfl ?_
        refine N_puti hB fp_X8_282 dX8_get_37 rfl (by omega) (fun σ1 e1 => ?_)
        refine R_ldcw hB dX8_get_40 kc_X8_292 ?_
        exact R_iret hB hE rfl dX8_get_43 (Or.inr (Or.inl ⟨by omega, by omega, rfl, by rw [← h24]; exact e1⟩))
    · have hd : ¬ (0 ≤ f ∧ f ≤ 2) := fun q => by
        rw [if_pos q] at h10
        omega
      refine R_ldcw hB dX8_get_16 kc_X8_292 ?_
      exact R_iret hB hE rfl dX8_get_19 (Or.inl ⟨by omega, rfl, rfl⟩)

def mcpQ (σ σ' : Mem) (a b n : Int) : Prop := (∀ i, i ∉ [76, 77] → σ' i = σ i) ∧ ∀ x, σ' 76 x = if b ≤ x ∧ x < b + n then σ 76 (a + (x - b)) else σ 76 x

theorem s_mcopy {Θ : Th} {σ : Mem} (s i t j n : Int) (hs : rng s) (hi : rng i) (ht : rng t) (hj : rng j) (hn : rng n) (hS : ∀ s, 0 ≤ s → s < 4 → (σ 73 s = 0 ∨ σ 73 s = 1) ∧ (0 ≤ σ 74 s ∧ σ 74 s < 3) ∧ (0 ≤ σ 75 s ∧ σ 75 s ≤ 60)) : Spc Θ M_X8_copy 1 [.ref (Th.r Θ 1), .int (I s), .int (I i), .int (I t), .int (I j), .int (I n)] σ (fun r σ' => (¬ ((0 ≤ s ∧ s < 4) ∧ (0 ≤ t ∧ t < 4)) ∧ r = -2 ∧ σ' = σ) ∨ (((0 ≤ s ∧ s < 4) ∧ (0 ≤ t ∧ t < 4)) ∧ ¬ (σ 73 s ≠ 0 ∧ σ 73 t ≠ 0) ∧ r = -10 - 1 ∧ σ' = up σ 1 33 1) ∨ (((0 ≤ s ∧ s < 4) ∧ (0 ≤ t ∧ t < 4)) ∧ (σ 73 s ≠ 0 ∧ σ 73 t ≠ 0) ∧ σ 74 s ≠ σ 74 t ∧ r = -10 - 4 ∧ σ' = up σ 1 33 4) ∨ (((0 ≤ s ∧ s < 4) ∧ (0 ≤ t ∧ t < 4)) ∧ (σ 73 s ≠ 0 ∧ σ 73 t ≠ 0) ∧ σ 74 s = σ 74 t ∧ ¬ ((0 ≤ i ∧ 0 ≤ n ∧ i + n ≤ σ 75 s) ∧ (0 ≤ j ∧ 0 ≤ n ∧ j + n ≤ σ 75 t)) ∧ r = -10 - 2 ∧ σ' = up σ 1 33 2) ∨ (((0 ≤ s ∧ s < 4) ∧ (0 ≤ t ∧ t < 4)) ∧ (σ 73 s ≠ 0 ∧ σ 73 t ≠ 0) ∧ σ 74 s = σ 74 t ∧ ((0 ≤ i ∧ 0 ≤ n ∧ i + n ≤ σ 75 s) ∧ (0 ≤ j ∧ 0 ≤ n ∧ j + n ≤ σ 75 t)) ∧ r = 1 ∧ mcpQ σ σ' (60 * s + i) (60 * t + j) n)) := by
  refine Spc_of (by decide +kernel) (Nat.le_of_ble_eq_true rfl) (fun Γ hB hE => ?_)
  show Run Θ Γ 0 [(0, .ref (Th.r Θ 1)), (1, .int (I s)), (2, .int (I i)), (3, .int (I t)), (4, .int (I j)), (5, .int (I n))] [] σ
  refine R_canon (fun hcn => ?_)
  have q76 : ∀ x, rng (σ 76 x) := fun x => hcn.i 76 x (by decide) (by decide) (by decide)
  refine R_iload_n hB (j := 1) dX8_copy_0 rfl rfl ?_
  refine P_cS1 hB (s_misSheet _ (by omega)) ms_X8_238 (by decide) dX8_copy_1 rfl rfl (Nat.le_of_ble_eq_true rfl) (fun z1 h1 => ?_)
  refine R_if_eq hB 14 (by rw [h1]; split <;> omega) dX8_copy_4 rfl (fun h4 => ?_) (fun h4 => ?_)
  · have hc : ¬ (0 ≤ s ∧ s < 4) := fun q => by
      rw [if_pos q] at h1
      omega
    refine R_bipush hB dX8_copy_14 rfl ?_
    exact R_iret hB hE rfl dX8_copy_16 (Or.inl ⟨by omega, rfl, rfl⟩)
  · have hc : 0 ≤ s ∧ s < 4 := by
      by_cases q : 0 ≤ s ∧ s < 4
      · exact q
      · rw [if_neg q] at h1; omega
    refine R_iload_n hB (j := 3) dX8_copy_7 rfl rfl ?_
    refine P_cS1 hB (s_misSheet _ (by omega)) ms_X8_238 (by decide) dX8_copy_8 rfl rfl (Nat.le_of_ble_eq_true rfl) (fun z8 h8 => ?_)
    refine R_if_ne hB 17 (by rw [h8]; split <;> omega) dX8_copy_11 rfl (fun h11 => ?_) (fun h11 => ?_)
    · have hd : 0 ≤ t ∧ t < 4 := by
        by_cases q : 0 ≤ t ∧ t < 4
        · exact q
        · rw [if_neg q] at h8; omega
      have hS1 := hS s hc.1 hc.2
      have hS2 := hS t hd.1 hd.2
      refine R_aload_n hB (j := 0) dX8_copy_17 rfl rfl ?_
      refine R_getr hB (73) fl_X8_71 dX8_copy_18 rfl rfl ?_
      refine R_iload_n hB (j := 1) dX8_copy_21 rfl rfl ?_
      refine R_zald hB rfl (by omega) dX8_copy_22 ?_
      refine R_if_eq hB 35 (by omega) dX8_copy_23 rfl (fun h23 => ?_) (fun h23 => ?_)
      · refine R_aload_n hB (j := 0) dX8_copy_35 rfl rfl ?_
        refine R_iconst hB dX8_copy_36 ?_
        refine R_cV1 hB (s_meets 1 (by omega)) mv_X8_241 rfl rfl (by decide) dX8_copy_37 rfl rfl (Nat.le_of_ble_eq_true rfl) (fun z37 σ9 h37 => ?_)
        exact R_iret hB hE rfl dX8_copy_40 (Or.inr (Or.inl ⟨by omega, by omega, h37.1, h37.2⟩))
      · refine R_aload_n hB (j := 0) dX8_copy_26 rfl rfl ?_
        refine R_getr hB (73) fl_X8_71 dX8_copy_27 rfl rfl ?_
        refine R_iload_n hB (j := 3) dX8_copy_30 rfl rfl ?_
        refine R_zald hB rfl (by omega) dX8_copy_31 ?_
        refine R_if_ne hB 41 (by omega) dX8_copy_32 rfl (fun h32 => ?_) (fun h32 => ?_)
        · refine R_aload_n hB (j := 0) dX8_copy_41 rfl rfl ?_
          refine R_getr hB (74) fl_X8_74 dX8_copy_42 rfl rfl ?_
          refine R_iload_n hB (j := 1) dX8_copy_45 rfl rfl ?_
          refine R_iald hB rfl (by omega) dX8_copy_46 ?_
          refine R_aload_n hB (j := 0) dX8_copy_47 rfl rfl ?_
          refine R_getr hB (74) fl_X8_74 dX8_copy_48 rfl rfl ?_
          refine R_iload_n hB (j := 3) dX8_copy_51 rfl rfl ?_
          refine R_iald hB rfl (by omega) dX8_copy_52 ?_
          refine R_icmp_eq hB 62 (by omega) (by omega) dX8_copy_53 rfl (fun h53 => ?_) (fun h53 => ?_)
          · refine R_iload_n hB (j := 2) dX8_copy_62 rfl rfl ?_
            refine R_if_lt hB 111 (by omega) dX8_copy_63 rfl (fun h63 => ?_) (fun h63 => ?_)
            · have hbig : ¬ ((0 ≤ i ∧ 0 ≤ n ∧ i + n ≤ σ 75 s) ∧ (0 ≤ j ∧ 0 ≤ n ∧ j + n ≤ σ 75 t)) := by omega
              refine R_aload_n hB (j := 0) dX8_copy_111 rfl rfl ?_
              refine R_iconst hB dX8_copy_112 ?_
              refine R_cV1 hB (s_meets 2 (by omega)) mv_X8_241 rfl rfl (by decide) dX8_copy_113 rfl rfl (Nat.le_of_ble_eq_true rfl) (fun z113 σ9 h113 => ?_)
              exact R_iret hB hE rfl dX8_copy_116 (Or.inr (Or.inr (Or.inr (Or.inl ⟨by omega, by omega, h53, hbig, h113.1, h113.2⟩))))
            · refine R_iload hB (j := 4) dX8_copy_66 rfl ?_
              refine R_if_lt hB 111 (by omega) dX8_copy_68 rfl (fun h68 => ?_) (fun h68 => ?_)
              · have hbig : ¬ ((0 ≤ i ∧ 0 ≤ n ∧ i + n ≤ σ 75 s) ∧ (0 ≤ j ∧ 0 ≤ n ∧ j + n ≤ σ 75 t)) := by omega
                refine R_aload_n hB (j := 0) dX8_copy_111 rfl rfl ?_
                refine R_iconst hB dX8_copy_112 ?_
                refine R_cV1 hB (s_meets 2 (by omega)) mv_X8_241 rfl rfl (by decide) dX8_copy_113 rfl rfl (Nat.le_of_ble_eq_true rfl) (fun z113 σ9 h113 => ?_)
                exact R_iret hB hE rfl dX8_copy_116 (Or.inr (Or.inr (Or.inr (Or.inl ⟨by omega, by omega, h53, hbig, h113.1, h113.2⟩))))
              · refine R_iload hB (j := 5) dX8_copy_71 rfl ?_
                refine R_if_lt hB 111 (by omega) dX8_copy_73 rfl (fun h73 => ?_) (fun h73 => ?_)
                · have hbig : ¬ ((0 ≤ i ∧ 0 ≤ n ∧ i + n ≤ σ 75 s) ∧ (0 ≤ j ∧ 0 ≤ n ∧ j + n ≤ σ 75 t)) := by omega
                  refine R_aload_n hB (j := 0) dX8_copy_111 rfl rfl ?_
                  refine R_iconst hB dX8_copy_112 ?_
                  refine R_cV1 hB (s_meets 2 (by omega)) mv_X8_241 rfl rfl (by decide) dX8_copy_113 rfl rfl (Nat.le_of_ble_eq_true rfl) (fun z113 σ9 h113 => ?_)
                  exact R_iret hB hE rfl dX8_copy_116 (Or.inr (Or.inr (Or.inr (Or.inl ⟨by omega, by omega, h53, hbig, h113.1, h113.2⟩))))
                · refine R_iload_n hB (j := 2) dX8_copy_76 rfl rfl ?_
                  refine R_i2l hB (by omega) dX8_copy_77 ?_
                  refine R_iload hB (j := 5) dX8_copy_78 rfl ?_
                  refine R_i2l hB (by omega) dX8_copy_80 ?_
                  refine R_ladd hB dX8_copy_81 ?_
                  refine R_aload_n hB (j := 0) dX8_copy_82 rfl rfl ?_
                  refine R_getr hB (75) fl_X8_77 dX8_copy_83 rfl rfl ?_
                  refine R_iload_n hB (j := 1) dX8_copy_86 rfl rfl ?_
                  refine R_iald hB rfl (by omega) dX8_copy_87 ?_
                  refine R_i2l hB (by omega) dX8_copy_88 ?_
                  refine R_lcmp hB (by omega) (by omega) dX8_copy_89 ?_
                  refine R_if_gt hB 111 (by split <;> (try split) <;> omega) dX8_copy_90 rfl (fun h90 => ?_) (fun h90 => ?_)
                  · have hbig : ¬ ((0 ≤ i ∧ 0 ≤ n ∧ i + n ≤ σ 75 s) ∧ (0 ≤ j ∧ 0 ≤ n ∧ j + n ≤ σ 75 t)) := by split at h90 <;> (try split at h90) <;> omega
                    refine R_aload_n hB (j := 0) dX8_copy_111 rfl rfl ?_
                    refine R_iconst hB dX8_copy_112 ?_
                    refine R_cV1 hB (s_meets 2 (by omega)) mv_X8_241 rfl rfl (by decide) dX8_copy_113 rfl rfl (Nat.le_of_ble_eq_true rfl) (fun z113 σ9 h113 => ?_)
                    exact R_iret hB hE rfl dX8_copy_116 (Or.inr (Or.inr (Or.inr (Or.inl ⟨by omega, by omega, h53, hbig, h113.1, h113.2⟩))))
                  · have hok1 : i + n ≤ σ 75 s := by split at h90 <;> (try split at h90) <;> omega
                    refine R_iload hB (j := 4) dX8_copy_93 rfl ?_
                    refine R_i2l hB (by omega) dX8_copy_95 ?_
                    refine R_iload hB (j := 5) dX8_copy_96 rfl ?_
                    refine R_i2l hB (by omega) dX8_copy_98 ?_
                    refine R_ladd hB dX8_copy_99 ?_
                    refine R_aload_n hB (j := 0) dX8_copy_100 rfl rfl ?_
                    refine R_getr hB (75) fl_X8_77 dX8_copy_101 rfl rfl ?_
                    refine R_iload_n hB (j := 3) dX8_copy_104 rfl rfl ?_
                    refine R_iald hB rfl (by omega) dX8_copy_105 ?_
                    refine R_i2l hB (by omega) dX8_copy_106 ?_
                    refine R_lcmp hB (by omega) (by omega) dX8_copy_107 ?_
                    refine R_if_le hB 117 (by split <;> (try split) <;> omega) dX8_copy_108 rfl (fun h108 => ?_) (fun h108 => ?_)
                    · have hok2 : j + n ≤ σ 75 t := by split at h108 <;> (try split at h108) <;> omega
                      refine R_iconst hB dX8_copy_117 ?_
                      refine R_istore hB (L' := [_, _, _, _, _, _, _]) dX8_copy_118 (Nat.le_of_ble_eq_true rfl) rfl ?_
                      have lp_120 : ∀ (n_120 : Nat) (k : Int) (σ1 : Mem), ((n - k).toNat) < n_120 → (0 ≤ k ∧ k ≤ n) → (∀ c, c ≠ 77 → σ1 c = σ c) → (∀ x, 0 ≤ x → x < k → σ1 77 x = σ 76 (60 * s + i + x)) → Run Θ Γ 120 [(0, .ref (Th.r Θ 1)), (1, .int (I s)), (2, .int (I i)), (3, .int (I t)), (4, .int (I j)), (5, .int (I n)), (6, .int (I k))] [] σ1 := by
                        intro n_120
                        induction n_120 with
                        | zero => intro k σ1 h_m; exact absurd h_m (Nat.not_lt_zero _)
                        | succ n_120 ih_120 =>
                          intro k σ1 h_m hk hO1 hM1
                          have k76 : σ1 76 = σ 76 := hO1 76 (by decide)
                          refine R_iload hB (j := 6) dX8_copy_120 rfl ?_
                          refine R_iload hB (j := 5) dX8_copy_122 rfl ?_
                          refine R_icmp_ge hB 154 (by omega) (by omega) dX8_copy_124 rfl (fun h124 => ?_) (fun h124 => ?_)
                          · refine R_iconst hB dX8_copy_154 ?_
                            refine R_istore hB (L' := [_, _, _, _, _, _, _]) dX8_copy_155 (Nat.le_of_ble_eq_true rfl) rfl ?_
                            have lp_157 : ∀ (n_157 : Nat) (k : Int) (σ3 : Mem), ((n - k).toNat) < n_157 → (0 ≤ k ∧ k ≤ n) → (∀ c, c ∉ [76, 77] → σ3 c = σ c) → (∀ x, 0 ≤ x → x < n → σ3 77 x = σ 76 (60 * s + i + x)) → (∀ x, σ3 76 x = if 60 * t + j ≤ x ∧ x < 60 * t + j + k then σ 76 (60 * s + i + (x - (60 * t + j))) else σ 76 x) → Run Θ Γ 157 [(0, .ref (Th.r Θ 1)), (1, .int (I s)), (2, .int (I i)), (3, .int (I t)), (4, .int (I j)), (5, .int (I n)), (6, .int (I k))] [] σ3 := by
                              intro n_157
                              induction n_157 with
                              | zero => intro k σ3 h_m; exact absurd h_m (Nat.not_lt_zero _)
                              | succ n_157 ih_157 =>
                                intro k σ3 h_m hk2 hO hM hZ
                                refine R_iload hB (j := 6) dX8_copy_157 rfl ?_
                                refine R_iload hB (j := 5) dX8_copy_159 rfl ?_
                                refine R_icmp_ge hB 192 (by omega) (by omega) dX8_copy_161 rfl (fun h161 => ?_) (fun h161 => ?_)
                                · refine R_iconst hB dX8_copy_192 ?_
                                  exact R_iret hB hE rfl dX8_copy_193 (Or.inr (Or.inr (Or.inr (Or.inr ⟨by omega, by omega, h53, by omega, rfl, hO, fun x => by rw [hZ x, show k = n by omega]⟩))))
                                · refine R_aload_n hB (j := 0) dX8_copy_164 rfl rfl ?_
                                  refine R_getr hB (76) fl_X8_80 dX8_copy_165 rfl rfl ?_
                                  refine R_bipush hB dX8_copy_168 rfl ?_
                                  refine R_iload_n hB (j := 3) dX8_copy_170 rfl rfl ?_
                                  refine R_imul hB dX8_copy_171 ?_
                                  refine R_iload hB (j := 4) dX8_copy_172 rfl ?_
                                  refine R_iadd hB dX8_copy_174 ?_
                                  refine R_iload hB (j := 6) dX8_copy_175 rfl ?_
                                  refine R_iadd hB dX8_copy_177 ?_
                                  refine R_aload_n hB (j := 0) dX8_copy_178 rfl rfl ?_
                                  refine R_getr hB (77) fl_X8_83 dX8_copy_179 rfl rfl ?_
                                  refine R_iload hB (j := 6) dX8_copy_182 rfl ?_
                                  refine R_iald hB rfl (by omega) dX8_copy_184 ?_
                                  refine N_iast hB rfl (by omega) (by rw [hM k hk2.1 (by omega)]; exact q76 _) dX8_copy_185 (fun σ4 e4 => ?_)
                                  refine R_iinc hB (j := 6) (L' := [_, _, _, _, _, _, _]) dX8_copy_186 rfl (Nat.le_of_ble_eq_true rfl) rfl ?_
                                  refine R_goto hB 157 dX8_copy_189 rfl ?_
                                  exact R_sub [1, 2, 3, 4, 5, 6, 0] rfl (ih_157 _ _ (by omega) (by omega) (fun c q => by rw [e4, up_row (fun w => q (by rw [w]; decide))]; exact hO c q) (fun x q1 q2 => by rw [e4, up_i (by decide)]; exact hM x q1 q2) (fun x => by
                                    rw [e4]
                                    by_cases c : x = 60 * t + j + k
                                    · rw [c, up_s, if_pos (by omega), hM k hk2.1 (by omega)]
                                      congr 1
                                      omega
                                    · rw [up_n (fun q => c q.2), hZ x]
                                      by_cases c2 : 60 * t + j ≤ x ∧ x < 60 * t + j + k
                                      · rw [if_pos c2, if_pos (by omega)]
                                      · rw [if_neg c2, if_neg (by omega)]))
                            exact R_sub [1, 2, 3, 4, 5, 6, 0] rfl (lp_157 _ _ _ (Nat.lt_succ_self _) (by omega) (fun c q => hO1 c (fun w => q (by rw [w]; decide))) (fun x q1 q2 => hM1 x q1 (by omega)) (fun x => by rw [if_neg (by omega), k76]))
                          · refine R_aload_n hB (j := 0) dX8_copy_127 rfl rfl ?_
                            refine R_getr hB (77) fl_X8_83 dX8_copy_128 rfl rfl ?_
                            refine R_iload hB (j := 6) dX8_copy_131 rfl ?_
                            refine R_aload_n hB (j := 0) dX8_copy_133 rfl rfl ?_
                            refine R_getr hB (76) fl_X8_80 dX8_copy_134 rfl rfl ?_
                            refine R_bipush hB dX8_copy_137 rfl ?_
                            refine R_iload_n hB (j := 1) dX8_copy_139 rfl rfl ?_
                            refine R_imul hB dX8_copy_140 ?_
                            refine R_iload_n hB (j := 2) dX8_copy_141 rfl rfl ?_
                            refine R_iadd hB dX8_copy_142 ?_
                            refine R_iload hB (j := 6) dX8_copy_143 rfl ?_
                            refine R_iadd hB dX8_copy_145 ?_
                            refine R_iald hB rfl (by omega) dX8_copy_146 ?_
                            refine N_iast hB rfl (by omega) (by rw [k76]; exact q76 _) dX8_copy_147 (fun σ2 e2 => ?_)
                            refine R_iinc hB (j := 6) (L' := [_, _, _, _, _, _, _]) dX8_copy_148 rfl (Nat.le_of_ble_eq_true rfl) rfl ?_
                            refine R_goto hB 120 dX8_copy_151 rfl ?_
                            exact R_sub [1, 2, 3, 4, 5, 6, 0] rfl (ih_120 _ _ (by omega) (by omega) (fun c q => by rw [e2, up_row q]; exact hO1 c q) (fun x q1 q2 => by
                              rw [e2]
                              by_cases c : x = k
                              · rw [c, up_s, k76]
                              · rw [up_n (fun q => c q.2)]; exact hM1 x q1 (by omega)))
                      exact R_sub [1, 2, 3, 4, 5, 6, 0] rfl (lp_120 _ _ _ (Nat.lt_succ_self _) (by omega) (fun _ _ => rfl) (fun x q1 q2 => by omega))
                    · have hbig : ¬ ((0 ≤ i ∧ 0 ≤ n ∧ i + n ≤ σ 75 s) ∧ (0 ≤ j ∧ 0 ≤ n ∧ j + n ≤ σ 75 t)) := by split at h108 <;> (try split at h108) <;> omega
                      refine R_aload_n hB (j := 0) dX8_copy_111 rfl rfl ?_
                      refine R_iconst hB dX8_copy_112 ?_
                      refine R_cV1 hB (s_meets 2 (by omega)) mv_X8_241 rfl rfl (by decide) dX8_copy_113 rfl rfl (Nat.le_of_ble_eq_true rfl) (fun z113 σ9 h113 => ?_)
                      exact R_iret hB hE rfl dX8_copy_116 (Or.inr (Or.inr (Or.inr (Or.inl ⟨by omega, by omega, h53, hbig, h113.1, h113.2⟩))))
          · refine R_aload_n hB (j := 0) dX8_copy_56 rfl rfl ?_
            refine R_iconst hB dX8_copy_57 ?_
            refine R_cV1 hB (s_meets 4 (by omega)) mv_X8_241 rfl rfl (by decide) dX8_copy_58 rfl rfl (Nat.le_of_ble_eq_true rfl) (fun z58 σ9 h58 => ?_)
            exact R_iret hB hE rfl dX8_copy_61 (Or.inr (Or.inr (Or.inl ⟨by omega, by omega, h53, h58.1, h58.2⟩)))
        · refine R_aload_n hB (j := 0) dX8_copy_35 rfl rfl ?_
          refine R_iconst hB dX8_copy_36 ?_
          refine R_cV1 hB (s_meets 1 (by omega)) mv_X8_241 rfl rfl (by decide) dX8_copy_37 rfl rfl (Nat.le_of_ble_eq_true rfl) (fun z37 σ9 h37 => ?_)
          exact R_iret hB hE rfl dX8_copy_40 (Or.inr (Or.inl ⟨by omega, by omega, h37.1, h37.2⟩))
    · have hd : ¬ (0 ≤ t ∧ t < 4) := fun q => by
        rw [if_pos q] at h8
        omega
      refine R_bipush hB dX8_copy_14 rfl ?_
      exact R_iret hB hE rfl dX8_copy_16 (Or.inl ⟨by omega, rfl, rfl⟩)

theorem s_mwrite {Θ : Th} {σ : Mem} (s t : Int) (hs : rng s) (ht : rng t) (h : InvC σ) (hR : Rel σ) (hS : ∀ s, 0 ≤ s → s < 4 → (σ 73 s = 0 ∨ σ 73 s = 1) ∧ (0 ≤ σ 74 s ∧ σ 74 s < 3) ∧ (0 ≤ σ 75 s ∧ σ 75 s ≤ 60)) : Spc Θ M_X8_write 1 [.ref (Th.r Θ 1), .int (I s), .int (I t)] σ (fun r σ' => (¬ ((0 ≤ s ∧ s < σ 0 2) ∧ (0 ≤ t ∧ t < 4)) ∧ r = -2 ∧ FrM σ σ') ∨ (((0 ≤ s ∧ s < σ 0 2) ∧ (0 ≤ t ∧ t < 4)) ∧ σ 73 t = 0 ∧ r = -10 - 1 ∧ ∃ σ0, FrM σ σ0 ∧ σ' = up σ0 1 33 1) ∨ (((0 ≤ s ∧ s < σ 0 2) ∧ (0 ≤ t ∧ t < 4)) ∧ σ 73 t ≠ 0 ∧ r = min 50 (σ 75 t) ∧ FrW σ σ' ∧ ∀ x, σ' 76 x = if 60 * t ≤ x ∧ x < 60 * t + r then cutF (σ 74 t) (dpH σ s.toNat (x - 60 * t)) else σ 76 x)) := by
  refine Spc_of (by decide +kernel) (Nat.le_of_ble_eq_true rfl) (fun Γ hB hE => ?_)
  show Run Θ Γ 0 [(0, .ref (Th.r Θ 1)), (1, .int (I s)), (2, .int (I t))] [] σ
  have hns := h.ns
  refine R_aload_n hB (j := 0) dX8_write_0 rfl rfl ?_
  refine R_iload_n hB (j := 1) dX8_write_1 rfl rfl ?_
  refine R_cV1 hB (s_isSleeper _ hs h hR) mv_X8_136 rfl rfl (by decide) dX8_write_2 rfl rfl (Nat.le_of_ble_eq_true rfl) (fun z2 σ1 h2 => ?_)
  obtain ⟨f1, f2, f3⟩ := h2
  have k73 : σ1 73 = σ 73 := f1.1 73 (by decide)
  refine R_if_eq hB 15 (by rw [f3]; split <;> omega) dX8_write_5 rfl (fun h5 => ?_) (fun h5 => ?_)
  · have hc : ¬ (0 ≤ s ∧ s < σ 0 2) := fun q => by
      rw [if_pos q] at f3
      omega
    refine R_bipush hB dX8_write_15 rfl ?_
    exact R_iret hB hE rfl dX8_write_17 (Or.inl ⟨by omega, rfl, f1⟩)
  · have hc : 0 ≤ s ∧ s < σ 0 2 := by
      by_cases q : 0 ≤ s ∧ s < σ 0 2
      · exact q
      · rw [if_neg q] at f3; omega
    refine R_iload_n hB (j := 2) dX8_write_8 rfl rfl ?_
    refine P_cS1 hB (s_misSheet _ (by omega)) ms_X8_238 (by decide) dX8_write_9 rfl rfl (Nat.le_of_ble_eq_true rfl) (fun z9 h9 => ?_)
    refine R_if_ne hB 18 (by rw [h9]; split <;> omega) dX8_write_12 rfl (fun h12 => ?_) (fun h12 => ?_)
    · have hd : 0 ≤ t ∧ t < 4 := by
        by_cases q : 0 ≤ t ∧ t < 4
        · exact q
        · rw [if_neg q] at h9; omega
      have hS1 := hS t hd.1 hd.2
      rw [← k73] at hS1
      refine R_aload_n hB (j := 0) dX8_write_18 rfl rfl ?_
      refine R_getr hB (73) fl_X8_71 dX8_write_19 rfl rfl ?_
      refine R_iload_n hB (j := 2) dX8_write_22 rfl rfl ?_
      refine R_zald hB rfl (by omega) dX8_write_23 ?_
      refine R_if_ne hB 33 (by omega) dX8_write_24 rfl (fun h24 => ?_) (fun h24 => ?_)
      · rw [k73] at h24
        refine R_iconst hB dX8_write_33 ?_
        refine R_istore_n hB (L' := [_, _, _, _]) dX8_write_34 rfl (Nat.le_of_ble_eq_true rfl) rfl ?_
        have lp_35 : ∀ (n_35 : Nat) (k : Int) (σ2 : Mem), ((50 - k).toNat) < n_35 → (0 ≤ k ∧ k ≤ 50 ∧ k ≤ σ 75 t) → (FrW σ σ2) → (∀ x, σ2 76 x = if 60 * t ≤ x ∧ x < 60 * t + k then cutF (σ 74 t) (dpH σ s.toNat (x - 60 * t)) else σ 76 x) → Run Θ Γ 35 [(0, .ref (Th.r Θ 1)), (1, .int (I s)), (2, .int (I t)), (3, .int (I k))] [] σ2 := by
          intro n_35
          induction n_35 with
          | zero => intro k σ2 h_m; exact absurd h_m (Nat.not_lt_zero _)
          | succ n_35 ih_35 =>
            intro k σ2 h_m hk W2 hZ
            have k75 : σ2 75 = σ 75 := W2.1 75 (by decide) (by decide)
            refine R_iload_n hB (j := 3) dX8_write_35 rfl rfl ?_
            refine R_aload_n hB (j := 0) dX8_write_36 rfl rfl ?_
            refine R_getr hB (75) fl_X8_77 dX8_write_37 rfl rfl ?_
            refine R_iload_n hB (j := 2) dX8_write_40 rfl rfl ?_
            refine R_iald hB rfl (by omega) dX8_write_41 ?_
            refine R_icmp_ge hB 69 (by omega) (by rw [k75]; omega) dX8_write_42 rfl (fun h42 => ?_) (fun h42 => ?_)
            · rw [k75] at h42
              refine R_iload_n hB (j := 3) dX8_write_69 rfl rfl ?_
              exact R_iret hB hE rfl dX8_write_70 (Or.inr (Or.inr ⟨⟨hc, hd⟩, h24, by omega, W2, hZ⟩))
            · rw [k75] at h42
              refine R_iload_n hB (j := 3) dX8_write_45 rfl rfl ?_
              refine R_bipush hB dX8_write_46 rfl ?_
              refine R_icmp_ge hB 69 (by omega) (by omega) dX8_write_48 rfl (fun h48 => ?_) (fun h48 => ?_)
              · refine R_iload_n hB (j := 3) dX8_write_69 rfl rfl ?_
                exact R_iret hB hE rfl dX8_write_70 (Or.inr (Or.inr ⟨⟨hc, hd⟩, h24, by omega, W2, hZ⟩))
              · refine R_aload_n hB (j := 0) dX8_write_51 rfl rfl ?_
                refine R_iload_n hB (j := 2) dX8_write_52 rfl rfl ?_
                refine R_iload_n hB (j := 3) dX8_write_53 rfl rfl ?_
                refine R_aload_n hB (j := 0) dX8_write_54 rfl rfl ?_
                refine R_iload_n hB (j := 3) dX8_write_55 rfl rfl ?_
                refine R_iload_n hB (j := 1) dX8_write_56 rfl rfl ?_
                refine R_cV1 hB (s_depthOf k s (by omega) (by rw [W2.1 0 (by decide) (by decide)]; exact hc) (h.fw W2) (hR.fw W2)) mv_X8_183 rfl rfl (by decide) dX8_write_57 rfl rfl (Nat.le_of_ble_eq_true rfl) (fun z57 σ3 h57 => ?_)
                obtain ⟨g1, g2, g3⟩ := h57
                have W3 := W2.tr (FrW.of g1)
                rw [fw_dpH W2 (by omega)] at g3
                have hdb := dpH_in h (s := s.toNat) (by omega) k
                rw [← g3] at hdb
                have k74 : σ3 74 = σ 74 := W3.1 74 (by decide) (by decide)
                refine R_cV0 hB (s_keep t k z57 hd (by omega) (by omega) (by rw [k74]; omega)) mv_X8_288 rfl rfl (by decide) dX8_write_60 rfl rfl (Nat.le_of_ble_eq_true rfl) (fun σ4 h60 => ?_)
                rw [k74] at h60
                refine R_iinc hB (j := 3) (L' := [_, _, _, _]) dX8_write_63 rfl (Nat.le_of_ble_eq_true rfl) rfl ?_
                refine R_goto hB 35 dX8_write_66 rfl ?_
                exact R_sub [1, 2, 3, 0] rfl (ih_35 _ _ (by omega) (by omega) (W3.tr (by rw [h60]; exact FrW.it)) (fun x => by
                  rw [h60]
                  by_cases c : x = 60 * t + k
                  · rw [c, up_s, if_pos (by omega), g3, show 60 * t + k - 60 * t = k by omega]
                  · rw [up_n (fun q => c q.2), g1.1 76 (by decide), hZ x]
                    by_cases c2 : 60 * t ≤ x ∧ x < 60 * t + k
                    · rw [if_pos c2, if_pos (by omega)]
                    · rw [if_neg c2, if_neg (by omega)]))
        exact R_sub [1, 2, 3, 0] rfl (lp_35 _ _ _ (Nat.lt_succ_self _) (by omega) (FrW.of f1) (fun x => by rw [if_neg (by omega), f1.1 76 (by decide)]))
      · rw [k73] at h24
        refine R_aload_n hB (j := 0) dX8_write_27 rfl rfl ?_
        refine R_iconst hB dX8_write_28 ?_
        refine R_cV1 hB (s_meets 1 (by omega)) mv_X8_241 rfl rfl (by decide) dX8_write_29 rfl rfl (Nat.le_of_ble_eq_true rfl) (fun z29 σ9 h29 => ?_)
        exact R_iret hB hE rfl dX8_write_32 (Or.inr (Or.inl ⟨⟨hc, hd⟩, h24, h29.1, σ1, f1, h29.2⟩))
    · have hd : ¬ (0 ≤ t ∧ t < 4) := fun q => by
        rw [if_pos q] at h9
        omega
      refine R_bipush hB dX8_write_15 rfl ?_
      exact R_iret hB hE rfl dX8_write_17 (Or.inl ⟨by omega, rfl, f1⟩)
