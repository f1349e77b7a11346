theorem s_readsDeed {Θ : Th} {σ : Mem} (n a : Int) (hn : 0 ≤ n ∧ n < 9) (ha : 0 ≤ a ∧ a ≤ 40) (ha5 : a % 5 = 0) (h : MtOK σ) : Spc Θ M_X8_readsDeed 1 [.ref (Th.r Θ 1), .int (I n), .int (I a)] σ (fun r σ' => GdQ σ 1 a r ∧ ((r < 4 ∧ σ' = σ) ∨ (r = 4 ∧ σ' = up (up (up σ 59 n (10 * (mby σ 1 a - 48) + (mby σ 1 (a + 1) - 48))) 60 n (mby σ 1 (a + 2) - 48)) 61 n (ixT 1 (mby σ 1 (a + 3)))))) := by
  refine Spc_of (by decide +kernel) (Nat.le_of_ble_eq_true rfl) (fun Γ hB hE => ?_)
  show Run Θ Γ 0 [(0, .ref (Th.r Θ 1)), (1, .int (I n)), (2, .int (I a))] [] σ
  obtain ⟨t0, t1, t2, t3⟩ := tb1
  refine R_aload_n hB (j := 0) dX8_readsDeed_0 rfl rfl ?_
  refine R_iconst hB dX8_readsDeed_1 ?_
  refine R_iload_n hB (j := 2) dX8_readsDeed_2 rfl rfl ?_
  refine R_iconst hB dX8_readsDeed_3 ?_
  refine P_cV1 hB (s_figureAt_1 a 4 (by omega) (by omega) h) mv_X8_110 rfl rfl (by decide) dX8_readsDeed_4 rfl rfl (Nat.le_of_ble_eq_true rfl) (fun z4 h4 => ?_)
  have b5 := fgz_in (σ := σ) (t := 1) (k := a) (hi := 4) (by omega)
  rw [← h4] at b5
  refine R_istore_n hB (L' := [_, _, _, _]) dX8_readsDeed_7 rfl (Nat.le_of_ble_eq_true rfl) rfl ?_
  refine R_aload_n hB (j := 1) dX8_readsDeed_8 rfl rfl ?_
  refine R_iconst hB dX8_readsDeed_9 ?_
  refine R_iload_n hB (j := 3) dX8_readsDeed_10 rfl rfl ?_
  refine R_iconst hB dX8_readsDeed_11 ?_
  refine R_iadd hB dX8_readsDeed_12 ?_
  refine R_bipush hB dX8_readsDeed_13 rfl ?_
  refine P_cV1 hB (s_figureAt_1 (a + 1) 9 (by omega) (by omega) h) mv_X8_110 rfl rfl (by decide) dX8_readsDeed_15 rfl rfl (Nat.le_of_ble_eq_true rfl) (fun z15 h15 => ?_)
  have b16 := fgz_in (σ := σ) (t := 1) (k := a + 1) (hi := 9) (by omega)
  rw [← h15] at b16
  refine R_istore hB (L' := [_, _, _, _, _]) dX8_readsDeed_18 (Nat.le_of_ble_eq_true rfl) rfl ?_
  refine R_aload_n hB (j := 2) dX8_readsDeed_20 rfl rfl ?_
  refine R_iconst hB dX8_readsDeed_21 ?_
  refine R_iload_n hB (j := 4) dX8_readsDeed_22 rfl rfl ?_
  refine R_iconst hB dX8_readsDeed_23 ?_
  refine R_iadd hB dX8_readsDeed_24 ?_
  refine R_bipush hB dX8_readsDeed_25 rfl ?_
  refine P_cV1 hB (s_figureAt_1 (a + 2) 9 (by omega) (by omega) h) mv_X8_110 rfl rfl (by decide) dX8_readsDeed_27 rfl rfl (Nat.le_of_ble_eq_true rfl) (fun z27 h27 => ?_)
  have b27 := fgz_in (σ := σ) (t := 1) (k := a + 2) (hi := 9) (by omega)
  rw [← h27] at b27
  refine R_istore hB (L' := [_, _, _, _, _, _]) dX8_readsDeed_30 (Nat.le_of_ble_eq_true rfl) rfl ?_
  refine R_aload_n hB (j := 3) dX8_readsDeed_32 rfl rfl ?_
  refine R_iconst hB dX8_readsDeed_33 ?_
  refine R_iload_n hB (j := 5) dX8_readsDeed_34 rfl rfl ?_
  refine R_iconst hB dX8_readsDeed_35 ?_
  refine R_iadd hB dX8_readsDeed_36 ?_
  refine P_cV1 hB (s_byteAt_1 (a + 3) (by omega) h) mv_X8_106 rfl rfl (by decide) dX8_readsDeed_37 rfl rfl (Nat.le_of_ble_eq_true rfl) (fun z37 h37 => ?_)
  have b37 := mbt_in h (t := 1) (by decide) (k := a + 3) (by omega)
  rw [← h37] at b37
  refine R_istore hB (L' := [_, _, _, _, _, _, _]) dX8_readsDeed_40 (Nat.le_of_ble_eq_true rfl) rfl ?_
  have jn_87 : ∀ (kd : Int), (kd = ixT 1 z37) → Run Θ Γ 87 [(0, .ref (Th.r Θ 1)), (1, .int (I n)), (2, .int (I a)), (3, .int (I z4)), (4, .int (I z15)), (5, .int (I z27)), (6, .int (I z37))] [.int (I kd)] σ := by
    intro kd hkd
    have hkb := ixT_in 1 z37
    rw [← hkd] at hkb
    rw [h37] at hkd
    have G := GdQ_of (σ := σ) (t := 1) (by decide) ha5 (h0 := 4) (h1 := 9) (h2 := 9) rfl rfl rfl h4 h15 h27 hkd
    refine R_istore hB (L' := [_, _, _, _, _, _, _, _]) dX8_readsDeed_87 (Nat.le_of_ble_eq_true rfl) rfl ?_
    refine R_iload_n hB (j := 4) dX8_readsDeed_89 rfl rfl ?_
    refine R_iconst hB dX8_readsDeed_90 ?_
    refine R_icmp_ne hB 96 (by omega) (by omega) dX8_readsDeed_91 rfl (fun h91 => ?_) (fun h91 => ?_)
    · refine R_iload hB (j := 5) dX8_readsDeed_96 rfl ?_
      refine R_iconst hB dX8_readsDeed_98 ?_
      refine R_icmp_ne hB 104 (by omega) (by omega) dX8_readsDeed_99 rfl (fun h99 => ?_) (fun h99 => ?_)
      · refine R_iload hB (j := 6) dX8_readsDeed_104 rfl ?_
        refine R_iconst hB dX8_readsDeed_106 ?_
        refine R_icmp_ne hB 112 (by omega) (by omega) dX8_readsDeed_107 rfl (fun h107 => ?_) (fun h107 => ?_)
        · refine R_iload hB (j := 0) dX8_readsDeed_112 rfl ?_
          refine R_iconst hB dX8_readsDeed_114 ?_
          refine R_icmp_ne hB 120 (by omega) (by omega) dX8_readsDeed_115 rfl (fun h115 => ?_) (fun h115 => ?_)
          · refine R_aload_n hB (j := 1) dX8_readsDeed_120 rfl rfl ?_
            refine R_getr hB (59) fl_X8_28 dX8_readsDeed_121 rfl rfl ?_
            refine R_iload_n hB (j := 2) dX8_readsDeed_124 rfl rfl ?_
            refine R_bipush hB dX8_readsDeed_125 rfl ?_
            refine R_iload_n hB (j := 4) dX8_readsDeed_127 rfl rfl ?_
            refine R_imul hB dX8_readsDeed_128 ?_
            refine R_iload hB (j := 5) dX8_readsDeed_129 rfl ?_
            refine R_iadd hB dX8_readsDeed_131 ?_
            refine N_iast hB rfl (by omega) (by omega) dX8_readsDeed_132 (fun σ1 e1 => ?_)
            refine R_aload_n hB (j := 1) dX8_readsDeed_133 rfl rfl ?_
            refine R_getr hB (60) fl_X8_31 dX8_readsDeed_134 rfl rfl ?_
            refine R_iload_n hB (j := 2) dX8_readsDeed_137 rfl rfl ?_
            refine R_iload hB (j := 6) dX8_readsDeed_138 rfl ?_
            refine N_iast hB rfl (by omega) (by omega) dX8_readsDeed_140 (fun σ2 e2 => ?_)
            refine R_aload_n hB (j := 1) dX8_readsDeed_141 rfl rfl ?_
            refine R_getr hB (61) fl_X8_34 dX8_readsDeed_142 rfl rfl ?_
            refine R_iload_n hB (j := 2) dX8_readsDeed_145 rfl rfl ?_
            refine R_iload hB (j := 0) dX8_readsDeed_146 rfl ?_
            refine N_iast hB rfl (by omega) (by omega) dX8_readsDeed_148 (fun σ3 e3 => ?_)
            refine R_iconst hB dX8_readsDeed_149 ?_
            exact R_iret hB hE rfl dX8_readsDeed_150 (by
              obtain ⟨g, x1, x2, x3, x4⟩ := G.2.2.2.2 h91 h99 h107 h115
              refine ⟨g, Or.inr ⟨rfl, ?_⟩⟩
              rw [e3, e2, e1, ← x1, ← x2, ← x3, ← x4])
          · refine R_iconst hB dX8_readsDeed_118 ?_
            exact R_iret hB hE rfl dX8_readsDeed_119 (⟨G.2.2.2.1 h91 h99 h107 h115, Or.inl ⟨by omega, rfl⟩⟩)
        · refine R_iconst hB dX8_readsDeed_110 ?_
          exact R_iret hB hE rfl dX8_readsDeed_111 (⟨G.2.2.1 h91 h99 h107, Or.inl ⟨by omega, rfl⟩⟩)
      · refine R_iconst hB dX8_readsDeed_102 ?_
        exact R_iret hB hE rfl dX8_readsDeed_103 (⟨G.2.1 h91 h99, Or.inl ⟨by omega, rfl⟩⟩)
    · refine R_iconst hB dX8_readsDeed_94 ?_
      exact R_iret hB hE rfl dX8_readsDeed_95 (⟨G.1 h91, Or.inl ⟨by omega, rfl⟩⟩)
  refine R_iload hB (j := 0) dX8_readsDeed_42 rfl ?_
  refine R_bipush hB dX8_readsDeed_44 rfl ?_
  refine R_icmp_ne hB 53 (by omega) (by omega) dX8_readsDeed_46 rfl (fun h46 => ?_) (fun h46 => ?_)
  · refine R_iload hB (j := 0) dX8_readsDeed_53 rfl ?_
    refine R_bipush hB dX8_readsDeed_55 rfl ?_
    refine R_icmp_ne hB 64 (by omega) (by omega) dX8_readsDeed_57 rfl (fun h57 => ?_) (fun h57 => ?_)
    · refine R_iload hB (j := 0) dX8_readsDeed_64 rfl ?_
      refine R_bipush hB dX8_readsDeed_66 rfl ?_
      refine R_icmp_ne hB 75 (by omega) (by omega) dX8_readsDeed_68 rfl (fun h68 => ?_) (fun h68 => ?_)
      · refine R_iload hB (j := 0) dX8_readsDeed_75 rfl ?_
        refine R_bipush hB dX8_readsDeed_77 rfl ?_
        refine R_icmp_ne hB 86 (by omega) (by omega) dX8_readsDeed_79 rfl (fun h79 => ?_) (fun h79 => ?_)
        · refine R_iconst hB dX8_readsDeed_86 ?_
          exact R_sub [4, 5, 6, 3, 2, 1, 0] rfl (jn_87 _ (by unfold ixT; rw [t0, t1, t2, t3]; (repeat split) <;> omega))
        · refine R_iconst hB dX8_readsDeed_82 ?_
          refine R_goto hB 87 dX8_readsDeed_83 rfl ?_
          exact R_sub [4, 5, 6, 3, 2, 1, 0] rfl (jn_87 _ (by unfold ixT; rw [t0, t1, t2, t3]; (repeat split) <;> omega))
      · refine R_iconst hB dX8_readsDeed_71 ?_
        refine R_goto hB 87 dX8_readsDeed_72 rfl ?_
        exact R_sub [4, 5, 6, 3, 2, 1, 0] rfl (jn_87 _ (by unfold ixT; rw [t0, t1, t2, t3]; (repeat split) <;> omega))
    · refine R_iconst hB dX8_readsDeed_60 ?_
      refine R_goto hB 87 dX8_readsDeed_61 rfl ?_
      exact R_sub [4, 5, 6, 3, 2, 1, 0] rfl (jn_87 _ (by unfold ixT; rw [t0, t1, t2, t3]; (repeat split) <;> omega))
  · refine R_iconst hB dX8_readsDeed_49 ?_
    refine R_goto hB 87 dX8_readsDeed_50 rfl ?_
    exact R_sub [4, 5, 6, 3, 2, 1, 0] rfl (jn_87 _ (by unfold ixT; rw [t0, t1, t2, t3]; (repeat split) <;> omega))

theorem GdQ_ff {σ : Mem} {t : Nat} {a g : Int} (hg : GdQ σ t a g) (h4 : g < 4) (ha : 0 ≤ a ∧ a ≤ σ 53 (t : Int)) (ha5 : a % 5 = 0) (hf : ∀ j, 0 ≤ j → j < a → fitB t (mby σ t j) j = true) (hgo : a < σ 53 (t : Int) ∨ (0 < a ∧ a = σ 53 (t : Int))) : FFz t (mby σ t) (σ 53 (t : Int)) (a + g) := by
  obtain ⟨g1, g2, g3⟩ := hg
  have hall : ∀ j, 0 ≤ j → j < a + g → fitB t (mby σ t j) j = true := fun j q1 q2 => by
    by_cases c : j < a
    · exact hf j q1 c
    · have := (g2 (j - a) (by omega) (by omega)).2
      rwa [show a + (j - a) = j by omega] at this
  by_cases c : a + g < σ 53 (t : Int)
  · refine Or.inl ⟨by omega, c, ?_, hall⟩
    cases q : fitB t (mby σ t (a + g)) (a + g) with
    | false => rfl
    | true => exact absurd ⟨c, q⟩ (g3 h4)
  · have he : a + g = σ 53 (t : Int) := by
      by_cases c0 : g = 0
      · omega
      · have := (g2 (g - 1) (by omega) (by omega)).1
        omega
    refine Or.inr ⟨fun j q1 q2 => hall j q1 (by omega), ?_⟩
    rw [if_neg (by omega)]
    exact he
theorem GdQ_4 {σ : Mem} {t : Nat} {a : Int} (hg : GdQ σ t a 4) (ha : 0 ≤ a) (hf : ∀ j, 0 ≤ j → j < a → fitB t (mby σ t j) j = true) : a + 4 ≤ σ 53 (t : Int) ∧ ∀ j, 0 ≤ j → j < a + 4 → fitB t (mby σ t j) j = true := by
  obtain ⟨g1, g2, g3⟩ := hg
  have := (g2 3 (by omega) (by omega)).1
  refine ⟨by omega, fun j q1 q2 => ?_⟩
  by_cases c : j < a
  · exact hf j q1 c
  · have := (g2 (j - a) (by omega) (by omega)).2
    rwa [show a + (j - a) = j by omega] at this
theorem fit_4 (t : Nat) (c : Int) {i : Int} (hi : i % 5 = 4) : fitB t c i = decide (c = 59) := by
  unfold fitB
  rw [if_neg (by omega), if_neg (by omega)]

theorem s_readsParts_0 {Θ : Th} {σ : Mem} (h : MtOK σ) : Spc Θ M_X8_readsParts 1 [.ref (Th.r Θ 1), .int (I 0)] σ (fun r σ' => FFz 0 (mby σ 0) (σ 53 ((0 : Nat) : Int)) r ∧ Same [1, 55, 56, 57, 58] σ σ' ∧ (∀ k, k ≠ 2 → σ' 1 k = σ 1 k) ∧ σ' 1 2 = unP r (σ 53 ((0 : Nat) : Int)) ∧ ∀ s, 0 ≤ s → s < σ' 1 2 → σ' 55 s = mby σ 0 (s * 5) - 48 ∧ σ' 56 s = mby σ 0 (s * 5 + 1) - 48 ∧ σ' 57 s = mby σ 0 (s * 5 + 2) - 48 ∧ σ' 58 s = ixT 0 (mby σ 0 (s * 5 + 3))) := by
  refine Spc_of (by decide +kernel) (Nat.le_of_ble_eq_true rfl) (fun Γ hB hE => ?_)
  show Run Θ Γ 0 [(0, .ref (Th.r Θ 1)), (1, .int (I 0))] [] σ
  refine R_canon (fun hcn => ?_)
  have hty : 0 ≤ σ 53 0 ∧ σ 53 0 ≤ 39 := h.1.1
  refine R_iconst hB dX8_readsParts_0 ?_
  refine R_istore_n hB (L' := [_, _, _]) dX8_readsParts_1 rfl (Nat.le_of_ble_eq_true rfl) rfl ?_
  refine R_iconst hB dX8_readsParts_2 ?_
  refine R_istore_n hB (L' := [_, _, _, _]) dX8_readsParts_3 rfl (Nat.le_of_ble_eq_true rfl) rfl ?_
  refine R_aload_n hB (j := 2) dX8_readsParts_4 rfl rfl ?_
  refine R_iload_n hB (j := 3) dX8_readsParts_5 rfl rfl ?_
  refine R_if_ne hB 13 (by omega) dX8_readsParts_6 rfl (fun h6 => ?_) (fun h6 => ?_)
  · exfalso; omega
  · refine R_iconst hB dX8_readsParts_9 ?_
    refine R_goto hB 17 dX8_readsParts_10 rfl ?_
    refine N_puti hB fp_X8_114 dX8_readsParts_17 rfl (by first | omega | (refine hcn.i _ _ (by decide) (by decide) (by decide))) (fun σ1 e1 => ?_)
    refine R_aload_n hB (j := 2) dX8_readsParts_20 rfl rfl ?_
    refine R_iload_n hB (j := 3) dX8_readsParts_21 rfl rfl ?_
    refine R_iconst hB dX8_readsParts_22 ?_
    refine R_icmp_ne hB 30 (by omega) (by omega) dX8_readsParts_23 rfl (fun h23 => ?_) (fun h23 => ?_)
    · refine R_aload_n hB (j := 2) dX8_readsParts_30 rfl rfl ?_
      refine R_geti hB fl_X8_117 dX8_readsParts_31 rfl ?_
      refine N_puti hB fp_X8_117 dX8_readsParts_34 rfl (by first | omega | (rw [e1, up_n (by decide)]; refine hcn.i _ _ (by decide) (by decide) (by decide))) (fun σ2 e2 => ?_)
      have lp_37 : ∀ (n_37 : Nat) (n a : Int) (σ3 : Mem), ((50 - a).toNat) < n_37 → (a = 5 * n) → (0 ≤ n ∧ a ≤ σ 53 0) → (∀ j, 0 ≤ j → j < a → fitB 0 (mby σ 0 j) j = true) → (Same [1, 55, 56, 57, 58] σ σ3) → (∀ k, k ≠ 2 → σ3 1 k = σ 1 k) → (σ3 1 2 = 0) → (∀ s, 0 ≤ s → s < n → σ3 55 s = mby σ 0 (s * 5) - 48 ∧ σ3 56 s = mby σ 0 (s * 5 + 1) - 48 ∧ σ3 57 s = mby σ 0 (s * 5 + 2) - 48 ∧ σ3 58 s = ixT 0 (mby σ 0 (s * 5 + 3))) → Run Θ Γ 37 [(0, .ref (Th.r Θ 1)), (1, .int (I 0)), (2, .int (I n)), (3, .int (I a))] [] σ3 := by
        intro n_37
        induction n_37 with
        | zero => intro n a σ3 h_m; exact absurd h_m (Nat.not_lt_zero _)
        | succ n_37 ih_37 =>
          intro n a σ3 h_m hna hn hft hS h1k h1z hen
          have r53 : σ3 53 = σ 53 := hS 53 (by decide)
          have r54 : σ3 54 = σ 54 := hS 54 (by decide)
          have hm3 : MtOK σ3 := by
            unfold MtOK
            rw [r53, r54]; exact h
          have jn_51 : ∀ (_ : Unit), (a < σ 53 0 ∨ (0 < a ∧ a = σ 53 0)) → Run Θ Γ 51 [(0, .ref (Th.r Θ 1)), (1, .int (I 0)), (2, .int (I n)), (3, .int (I a))] [] σ3 := by
            intro _ hgo
            refine R_iload_n hB (j := 2) dX8_readsParts_51 rfl rfl ?_
            refine R_bipush hB dX8_readsParts_52 rfl ?_
            refine R_icmp_ne hB 61 (by omega) (by omega) dX8_readsParts_54 rfl (fun h54 => ?_) (fun h54 => ?_)
            · refine R_iload_n hB (j := 1) dX8_readsParts_61 rfl rfl ?_
              refine R_if_ne hB 74 (by omega) dX8_readsParts_62 rfl (fun h62 => ?_) (fun h62 => ?_)
              · exfalso; omega
              · refine R_aload_n hB (j := 0) dX8_readsParts_65 rfl rfl ?_
                refine R_iload_n hB (j := 2) dX8_readsParts_66 rfl rfl ?_
                refine R_iload_n hB (j := 3) dX8_readsParts_67 rfl rfl ?_
                refine R_cV1 hB (s_readsSleeper n a (by omega) (by omega) (by omega) hm3) mv_X8_120 rfl rfl (by decide) dX8_readsParts_68 rfl rfl (Nat.le_of_ble_eq_true rfl) (fun z68 σ4 h68 => ?_)
                obtain ⟨g1, g2⟩ := h68
                have g1 : GdQ σ 0 a z68 := by
                  unfold GdQ mby at *
                  rw [r53, r54] at g1
                  exact g1
                have mbe : mby σ3 0 = mby σ 0 := by unfold mby; rw [r54]
                rw [mbe] at g2
                have g0 := g1.1
                refine R_goto hB 80 dX8_readsParts_71 rfl ?_
                refine R_istore hB (L' := [_, _, _, _, _]) dX8_readsParts_80 (Nat.le_of_ble_eq_true rfl) rfl ?_
                refine R_iload hB (j := 0) dX8_readsParts_82 rfl ?_
                refine R_iconst hB dX8_readsParts_84 ?_
                refine R_icmp_ge hB 93 (by omega) (by omega) dX8_readsParts_85 rfl (fun h85 => ?_) (fun h85 => ?_)
                · have hz4 : z68 = 4 := by omega
                  have hσ : σ4 = up (up (up (up σ3 55 n (mby σ 0 a - 48)) 56 n (mby σ 0 (a + 1) - 48)) 57 n (mby σ 0 (a + 2) - 48)) 58 n (ixT 0 (mby σ 0 (a + 3))) := by
                    rcases g2 with q | q
                    · omega
                    · exact q.2
                  rw [hz4] at g1
                  have G4 := GdQ_4 g1 (by omega) hft
                  have G4a : a + 4 ≤ σ 53 0 := G4.1
                  have s53 : σ4 53 = σ 53 := by rw [hσ, up_row (by decide), up_row (by decide), up_row (by decide), up_row (by decide), r53]
                  have s54 : σ4 54 = σ 54 := by rw [hσ, up_row (by decide), up_row (by decide), up_row (by decide), up_row (by decide), r54]
                  have s1 : σ4 1 = σ3 1 := by rw [hσ, up_row (by decide), up_row (by decide), up_row (by decide), up_row (by decide)]
                  have hS4 : Same [1, 55, 56, 57, 58] σ σ4 := by
                    intro i hi
                    have hi2 := hi
                    simp only [List.mem_cons, List.not_mem_nil, or_false, not_or] at hi2
                    rw [hσ, up_row (by omega), up_row (by omega), up_row (by omega), up_row (by omega), hS i hi]
                  have hen4 : ∀ s, 0 ≤ s → s < n + 1 → σ4 55 s = mby σ 0 (s * 5) - 48 ∧ σ4 56 s = mby σ 0 (s * 5 + 1) - 48 ∧ σ4 57 s = mby σ 0 (s * 5 + 2) - 48 ∧ σ4 58 s = ixT 0 (mby σ 0 (s * 5 + 3)) := fun s q1 q2 => by
                    rw [hσ]
                    by_cases c : s = n
                    · subst c
                      have e5 : a = s * 5 := by omega
                      rw [e5]
                      simp [up]
                    · have := hen s q1 (by omega)
                      simp [up, c]
                      exact this
                  have hm4 : MtOK σ4 := by
                    unfold MtOK
                    rw [s53, s54]; exact h
                  refine R_iinc hB (j := 3) (L' := [_, _, _, _, _]) dX8_readsParts_93 rfl (Nat.le_of_ble_eq_true rfl) rfl ?_
                  refine R_iinc hB (j := 4) (L' := [_, _, _, _, _]) dX8_readsParts_96 rfl (Nat.le_of_ble_eq_true rfl) rfl ?_
                  refine R_iload_n hB (j := 0) dX8_readsParts_99 rfl rfl ?_
                  refine R_aload_n hB (j := 3) dX8_readsParts_100 rfl rfl ?_
                  refine R_getr hB (53) fl_X8_7 dX8_readsParts_101 rfl rfl ?_
                  refine R_iload_n hB (j := 4) dX8_readsParts_104 rfl rfl ?_
                  refine R_iald hB rfl (by omega) dX8_readsParts_105 ?_
                  refine R_icmp_ne hB 144 (by omega) (by rw [s53]; omega) dX8_readsParts_106 rfl (fun h106 => ?_) (fun h106 => ?_)
                  · rw [s53] at h106
                    refine R_aload_n hB (j := 3) dX8_readsParts_144 rfl rfl ?_
                    refine R_iload_n hB (j := 4) dX8_readsParts_145 rfl rfl ?_
                    refine R_iload_n hB (j := 0) dX8_readsParts_146 rfl rfl ?_
                    refine P_cV1 hB (s_byteAt_0 _ (by omega) hm4) mv_X8_106 rfl rfl (by decide) dX8_readsParts_147 rfl rfl (Nat.le_of_ble_eq_true rfl) (fun z147 h147 => ?_)
                    have hbb : z147 = mby σ 0 (a + 4) := by
                      rw [h147]; unfold mbt mby; rw [s54, if_pos (by rw [s53]; show a + 4 < σ 53 0; omega)]
                    have hbr := mbt_in hm4 (t := 0) (by decide) (k := a + 4) (by omega)
                    rw [← h147] at hbr
                    have hfit4 := fit_4 0 (mby σ 0 (a + 4)) (i := a + 4) (by omega)
                    rw [← hbb] at hfit4
                    refine R_bipush hB dX8_readsParts_150 rfl ?_
                    refine R_icmp_eq hB 157 (by omega) (by omega) dX8_readsParts_152 rfl (fun h152 => ?_) (fun h152 => ?_)
                    · refine R_iinc hB (j := 0) (L' := [_, _, _, _, _]) dX8_readsParts_157 rfl (Nat.le_of_ble_eq_true rfl) rfl ?_
                      refine R_goto hB 37 dX8_readsParts_160 rfl ?_
                      exact R_sub [3, 4, 1, 0] rfl (ih_37 _ _ _ (by omega) (by omega) (by omega) (fun j q1 q2 => by
                        by_cases c : j < a + 4
                        · exact G4.2 j q1 c
                        · have cj : j = a + 4 := by omega
                          rw [cj, ← hbb, hfit4, h152]; rfl) hS4 (fun k hk => by rw [s1]; exact h1k k hk) (by rw [s1]; exact h1z) hen4)
                    · refine R_iload_n hB (j := 0) dX8_readsParts_155 rfl rfl ?_
                      exact R_iret hB hE rfl dX8_readsParts_156 (by
                        have hlt : a + 4 < σ 53 ((0 : Nat) : Int) := by show a + 4 < σ 53 0; omega
                        have hff : fitB 0 (mby σ 0 (a + 4)) (a + 4) = false := by rw [← hbb, hfit4]; simp only [decide_eq_false_iff_not]; exact h152
                        refine ⟨Or.inl ⟨by omega, hlt, hff, fun j q1 q2 => G4.2 j q1 q2⟩, hS4, fun k hk => by rw [s1]; exact h1k k hk, ?_, fun s q1 q2 => ?_⟩
                        · rw [s1, h1z]; unfold unP; rw [if_neg (by omega)]
                        · rw [s1, h1z] at q2; omega)
                  · rw [s53] at h106
                    refine R_aload_n hB (j := 3) dX8_readsParts_109 rfl rfl ?_
                    refine R_iload_n hB (j := 4) dX8_readsParts_110 rfl rfl ?_
                    refine R_if_ne hB 118 (by omega) dX8_readsParts_111 rfl (fun h111 => ?_) (fun h111 => ?_)
                    · exfalso; omega
                    · refine R_iload_n hB (j := 1) dX8_readsParts_114 rfl rfl ?_
                      refine R_goto hB 122 dX8_readsParts_115 rfl ?_
                      refine R_canon (fun hcn4 => ?_)
                      refine N_puti hB fp_X8_114 dX8_readsParts_122 rfl (by first | omega | (refine hcn4.i _ _ (by decide) (by decide) (by decide))) (fun σ5 e5 => ?_)
                      refine R_aload_n hB (j := 3) dX8_readsParts_125 rfl rfl ?_
                      refine R_iload_n hB (j := 4) dX8_readsParts_126 rfl rfl ?_
                      refine R_iconst hB dX8_readsParts_127 ?_
                      refine R_icmp_ne hB 135 (by omega) (by omega) dX8_readsParts_128 rfl (fun h128 => ?_) (fun h128 => ?_)
                      · refine R_aload_n hB (j := 3) dX8_readsParts_135 rfl rfl ?_
                        refine R_geti hB fl_X8_117 dX8_readsParts_136 rfl ?_
                        refine N_puti hB fp_X8_117 dX8_readsParts_139 rfl (by first | omega | (rw [e5, up_n (by decide)]; refine hcn4.i _ _ (by decide) (by decide) (by decide))) (fun σ6 e6 => ?_)
                        refine R_iconst hB dX8_readsParts_142 ?_
                        exact R_iret hB hE rfl dX8_readsParts_143 (by
                          have hne : a + 4 = σ 53 0 := by omega
                          have hx1 : ∀ i, i ≠ 1 → σ6 i = σ4 i := fun i hi => by rw [e6, up_row hi, e5, up_row hi]
                          have hxk : σ6 1 2 = n + 1 := by rw [e6, up_n (by decide), e5, up_s]
                          refine ⟨Or.inr ⟨fun j q1 q2 => G4.2 j q1 (by have : σ 53 ((0 : Nat) : Int) = σ 53 0 := rfl; omega), ?_⟩, fun i hi => ?_, fun k hk => ?_, ?_, fun s q1 q2 => ?_⟩
                          · rw [if_pos (by have : σ 53 ((0 : Nat) : Int) = σ 53 0 := rfl; omega)]
                          · have hi2 := hi
                            simp only [List.mem_cons, List.not_mem_nil, or_false, not_or] at hi2
                            rw [hx1 i hi2.1, hS4 i hi]
                          · rw [e6]
                            by_cases c : k = 7
                            · subst c; rw [up_s, e5, up_n (by decide), s1, h1k 7 (by decide)]
                            · rw [up_n (fun q => c q.2), e5, up_n (fun q => hk q.2), s1, h1k k hk]
                          · rw [hxk]
                            unfold unP
                            rw [if_pos rfl]
                            have : σ 53 ((0 : Nat) : Int) = σ 53 0 := rfl
                            omega
                          · rw [hxk] at q2
                            rw [hx1 55 (by decide), hx1 56 (by decide), hx1 57 (by decide), hx1 58 (by decide)]
                            exact hen4 s q1 (by omega))
                      · exfalso; omega
                · refine R_iload_n hB (j := 4) dX8_readsParts_88 rfl rfl ?_
                  refine R_iload hB (j := 0) dX8_readsParts_89 rfl ?_
                  refine R_iadd hB dX8_readsParts_91 ?_
                  exact R_iret hB hE rfl dX8_readsParts_92 (by
                    have hlt : z68 < 4 := by omega
                    have hσ : σ4 = σ3 := by
                      rcases g2 with q | q
                      · exact q.2
                      · omega
                    have hff := GdQ_ff g1 hlt (show 0 ≤ a ∧ a ≤ σ 53 ((0 : Nat) : Int) from ⟨by omega, hn.2⟩) (by omega) hft (show a < σ 53 ((0 : Nat) : Int) ∨ (0 < a ∧ a = σ 53 ((0 : Nat) : Int)) from hgo)
                    have hne : a + z68 ≠ -1 := by omega
                    rw [hσ]
                    refine ⟨hff, hS, h1k, ?_, fun s q1 q2 => ?_⟩
                    · rw [h1z]; unfold unP; rw [if_neg hne]
                    · rw [h1z] at q2; omega)
            · exfalso; omega
          refine R_iload_n hB (j := 3) dX8_readsParts_37 rfl rfl ?_
          refine R_aload_n hB (j := 0) dX8_readsParts_38 rfl rfl ?_
          refine R_getr hB (53) fl_X8_7 dX8_readsParts_39 rfl rfl ?_
          refine R_iload_n hB (j := 1) dX8_readsParts_42 rfl rfl ?_
          refine R_iald hB rfl (by omega) dX8_readsParts_43 ?_
          refine R_icmp_lt hB 51 (by omega) (by rw [r53]; omega) dX8_readsParts_44 rfl (fun h44 => ?_) (fun h44 => ?_)
          · rw [r53] at h44
            exact R_sub [0, 1, 2, 3] rfl (jn_51 () (Or.inl h44))
          · rw [r53] at h44
            refine R_iload_n hB (j := 3) dX8_readsParts_47 rfl rfl ?_
            refine R_if_le hB 163 (by omega) dX8_readsParts_48 rfl (fun h48 => ?_) (fun h48 => ?_)
            · refine R_iconst hB dX8_readsParts_163 ?_
              exact R_iret hB hE rfl dX8_readsParts_164 (by
                have h0 : σ 53 ((0 : Nat) : Int) = 0 := by show σ 53 0 = 0; omega
                refine ⟨Or.inr ⟨fun j q1 q2 => by omega, by rw [h0]; rfl⟩, hS, h1k, ?_, fun s q1 q2 => ?_⟩
                · rw [h1z, h0]; rfl
                · rw [h1z] at q2; omega)
            · exact R_sub [0, 1, 2, 3] rfl (jn_51 () (Or.inr (by omega)))
      exact R_sub [2, 3, 1, 0] rfl (lp_37 _ _ _ _ (Nat.lt_succ_self _) (by omega) (by omega) (fun j q1 q2 => by omega) (fun i hi => by
        simp only [List.mem_cons, List.not_mem_nil, or_false, not_or] at hi
        rw [e2, up_row hi.1, e1, up_row hi.1]) (fun k hk => by
        rw [e2]
        by_cases c : k = 7
        · subst c; rw [up_s, e1, up_n (by decide)]
        · rw [up_n (fun q => c q.2), e1, up_n (fun q => hk q.2)]) (by rw [e2, up_n (by decide), e1, up_s]) (fun s q1 q2 => by omega))
    · exfalso; omega

theorem s_readsParts_1 {Θ : Th} {σ : Mem} (h : MtOK σ) : Spc Θ M_X8_readsParts 1 [.ref (Th.r Θ 1), .int (I 1)] σ (fun r σ' => FFz 1 (mby σ 1) (σ 53 ((1 : Nat) : Int)) r ∧ Same [1, 59, 60, 61] σ σ' ∧ (∀ k, k ≠ 7 → σ' 1 k = σ 1 k) ∧ σ' 1 7 = unP r (σ 53 ((1 : Nat) : Int)) ∧ ∀ s, 0 ≤ s → s < σ' 1 7 → σ' 59 s = 10 * (mby σ 1 (s * 5) - 48) + (mby σ 1 (s * 5 + 1) - 48) ∧ σ' 60 s = mby σ 1 (s * 5 + 2) - 48 ∧ σ' 61 s = ixT 1 (mby σ 1 (s * 5 + 3))) := by
  refine Spc_of (by decide +kernel) (Nat.le_of_ble_eq_true rfl) (fun Γ hB hE => ?_)
  show Run Θ Γ 0 [(0, .ref (Th.r Θ 1)), (1, .int (I 1))] [] σ
  refine R_canon (fun hcn => ?_)
  have hty : 0 ≤ σ 53 1 ∧ σ 53 1 ≤ 39 := h.1.2
  refine R_iconst hB dX8_readsParts_0 ?_
  refine R_istore_n hB (L' := [_, _, _]) dX8_readsParts_1 rfl (Nat.le_of_ble_eq_true rfl) rfl ?_
  refine R_iconst hB dX8_readsParts_2 ?_
  refine R_istore_n hB (L' := [_, _, _, _]) dX8_readsParts_3 rfl (Nat.le_of_ble_eq_true rfl) rfl ?_
  refine R_aload_n hB (j := 2) dX8_readsParts_4 rfl rfl ?_
  refine R_iload_n hB (j := 3) dX8_readsParts_5 rfl rfl ?_
  refine R_if_ne hB 13 (by omega) dX8_readsParts_6 rfl (fun h6 => ?_) (fun h6 => ?_)
  · refine R_aload_n hB (j := 2) dX8_readsParts_13 rfl rfl ?_
    refine R_geti hB fl_X8_114 dX8_readsParts_14 rfl ?_
    refine N_puti hB fp_X8_114 dX8_readsParts_17 rfl (by first | omega | (refine hcn.i _ _ (by decide) (by decide) (by decide))) (fun σ1 e1 => ?_)
    refine R_aload_n hB (j := 2) dX8_readsParts_20 rfl rfl ?_
    refine R_iload_n hB (j := 3) dX8_readsParts_21 rfl rfl ?_
    refine R_iconst hB dX8_readsParts_22 ?_
    refine R_icmp_ne hB 30 (by omega) (by omega) dX8_readsParts_23 rfl (fun h23 => ?_) (fun h23 => ?_)
    · exfalso; omega
    · refine R_iconst hB dX8_readsParts_26 ?_
      refine R_goto hB 34 dX8_readsParts_27 rfl ?_
      refine N_puti hB fp_X8_117 dX8_readsParts_34 rfl (by first | omega | (rw [e1, up_n (by decide)]; refine hcn.i _ _ (by decide) (by decide) (by decide))) (fun σ2 e2 => ?_)
      have lp_37 : ∀ (n_37 : Nat) (n a : Int) (σ3 : Mem), ((50 - a).toNat) < n_37 → (a = 5 * n) → (0 ≤ n ∧ a ≤ σ 53 1) → (∀ j, 0 ≤ j → j < a → fitB 1 (mby σ 1 j) j = true) → (Same [1, 59, 60, 61] σ σ3) → (∀ k, k ≠ 7 → σ3 1 k = σ 1 k) → (σ3 1 7 = 0) → (∀ s, 0 ≤ s → s < n → σ3 59 s = 10 * (mby σ 1 (s * 5) - 48) + (mby σ 1 (s * 5 + 1) - 48) ∧ σ3 60 s = mby σ 1 (s * 5 + 2) - 48 ∧ σ3 61 s = ixT 1 (mby σ 1 (s * 5 + 3))) → Run Θ Γ 37 [(0, .ref (Th.r Θ 1)), (1, .int (I 1)), (2, .int (I n)), (3, .int (I a))] [] σ3 := by
        intro n_37
        induction n_37 with
        | zero => intro n a σ3 h_m; exact absurd h_m (Nat.not_lt_zero _)
        | succ n_37 ih_37 =>
          intro n a σ3 h_m hna hn hft hS h1k h1z hen
          have r53 : σ3 53 = σ 53 := hS 53 (by decide)
          have r54 : σ3 54 = σ 54 := hS 54 (by decide)
          have hm3 : MtOK σ3 := by
            unfold MtOK
            rw [r53, r54]; exact h
          have jn_51 : ∀ (_ : Unit), (a < σ 53 1 ∨ (0 < a ∧ a = σ 53 1)) → Run Θ Γ 51 [(0, .ref (Th.r Θ 1)), (1, .int (I 1)), (2, .int (I n)), (3, .int (I a))] [] σ3 := by
            intro _ hgo
            refine R_iload_n hB (j := 2) dX8_readsParts_51 rfl rfl ?_
            refine R_bipush hB dX8_readsParts_52 rfl ?_
            refine R_icmp_ne hB 61 (by omega) (by omega) dX8_readsParts_54 rfl (fun h54 => ?_) (fun h54 => ?_)
            · refine R_iload_n hB (j := 1) dX8_readsParts_61 rfl rfl ?_
              refine R_if_ne hB 74 (by omega) dX8_readsParts_62 rfl (fun h62 => ?_) (fun h62 => ?_)
              · refine R_aload_n hB (j := 0) dX8_readsParts_74 rfl rfl ?_
                refine R_iload_n hB (j := 2) dX8_readsParts_75 rfl rfl ?_
                refine R_iload_n hB (j := 3) dX8_readsParts_76 rfl rfl ?_
                refine R_cV1 hB (s_readsDeed n a (by omega) (by omega) (by omega) hm3) mv_X8_123 rfl rfl (by decide) dX8_readsParts_77 rfl rfl (Nat.le_of_ble_eq_true rfl) (fun z77 σ4 h77 => ?_)
                obtain ⟨g1, g2⟩ := h77
                have g1 : GdQ σ 1 a z77 := by
                  unfold GdQ mby at *
                  rw [r53, r54] at g1
                  exact g1
                have mbe : mby σ3 1 = mby σ 1 := by unfold mby; rw [r54]
                rw [mbe] at g2
                have g0 := g1.1
                refine R_istore hB (L' := [_, _, _, _, _]) dX8_readsParts_80 (Nat.le_of_ble_eq_true rfl) rfl ?_
                refine R_iload hB (j := 0) dX8_readsParts_82 rfl ?_
                refine R_iconst hB dX8_readsParts_84 ?_
                refine R_icmp_ge hB 93 (by omega) (by omega) dX8_readsParts_85 rfl (fun h85 => ?_) (fun h85 => ?_)
                · have hz4 : z77 = 4 := by omega
                  have hσ : σ4 = up (up (up σ3 59 n (10 * (mby σ 1 a - 48) + (mby σ 1 (a + 1) - 48))) 60 n (mby σ 1 (a + 2) - 48)) 61 n (ixT 1 (mby σ 1 (a + 3))) := by
                    rcases g2 with q | q
                    · omega
                    · exact q.2
                  rw [hz4] at g1
                  have G4 := GdQ_4 g1 (by omega) hft
                  have G4a : a + 4 ≤ σ 53 1 := G4.1
                  have s53 : σ4 53 = σ 53 := by rw [hσ, up_row (by decide), up_row (by decide), up_row (by decide), r53]
                  have s54 : σ4 54 = σ 54 := by rw [hσ, up_row (by decide), up_row (by decide), up_row (by decide), r54]
                  have s1 : σ4 1 = σ3 1 := by rw [hσ, up_row (by decide), up_row (by decide), up_row (by decide)]
                  have hS4 : Same [1, 59, 60, 61] σ σ4 := by
                    intro i hi
                    have hi2 := hi
                    simp only [List.mem_cons, List.not_mem_nil, or_false, not_or] at hi2
                    rw [hσ, up_row (by omega), up_row (by omega), up_row (by omega), hS i hi]
                  have hen4 : ∀ s, 0 ≤ s → s < n + 1 → σ4 59 s = 10 * (mby σ 1 (s * 5) - 48) + (mby σ 1 (s * 5 + 1) - 48) ∧ σ4 60 s = mby σ 1 (s * 5 + 2) - 48 ∧ σ4 61 s = ixT 1 (mby σ 1 (s * 5 + 3)) := fun s q1 q2 => by
                    rw [hσ]
                    by_cases c : s = n
                    · subst c
                      have e5 : a = s * 5 := by omega
                      rw [e5]
                      simp [up]
                    · have := hen s q1 (by omega)
                      simp [up, c]
                      exact this
                  have hm4 : MtOK σ4 := by
                    unfold MtOK
                    rw [s53, s54]; exact h
                  refine R_iinc hB (j := 3) (L' := [_, _, _, _, _]) dX8_readsParts_93 rfl (Nat.le_of_ble_eq_true rfl) rfl ?_
                  refine R_iinc hB (j := 4) (L' := [_, _, _, _, _]) dX8_readsParts_96 rfl (Nat.le_of_ble_eq_true rfl) rfl ?_
                  refine R_iload_n hB (j := 0) dX8_readsParts_99 rfl rfl ?_
                  refine R_aload_n hB (j := 3) dX8_readsParts_100 rfl rfl ?_
                  refine R_getr hB (53) fl_X8_7 dX8_readsParts_101 rfl rfl ?_
                  refine R_iload_n hB (j := 4) dX8_readsParts_104 rfl rfl ?_
                  refine R_iald hB rfl (by omega) dX8_readsParts_105 ?_
                  refine R_icmp_ne hB 144 (by omega) (by rw [s53]; omega) dX8_readsParts_106 rfl (fun h106 => ?_) (fun h106 => ?_)
                  · rw [s53] at h106
                    refine R_aload_n hB (j := 3) dX8_readsParts_144 rfl rfl ?_
                    refine R_iload_n hB (j := 4) dX8_readsParts_145 rfl rfl ?_
                    refine R_iload_n hB (j := 0) dX8_readsParts_146 rfl rfl ?_
                    refine P_cV1 hB (s_byteAt_1 _ (by omega) hm4) mv_X8_106 rfl rfl (by decide) dX8_readsParts_147 rfl rfl (Nat.le_of_ble_eq_true rfl) (fun z147 h147 => ?_)
                    have hbb : z147 = mby σ 1 (a + 4) := by
                      rw [h147]; unfold mbt mby; rw [s54, if_pos (by rw [s53]; show a + 4 < σ 53 1; omega)]
                    have hbr := mbt_in hm4 (t := 1) (by decide) (k := a + 4) (by omega)
                    rw [← h147] at hbr
                    have hfit4 := fit_4 1 (mby σ 1 (a + 4)) (i := a + 4) (by omega)
                    rw [← hbb] at hfit4
                    refine R_bipush hB dX8_readsParts_150 rfl ?_
                    refine R_icmp_eq hB 157 (by omega) (by omega) dX8_readsParts_152 rfl (fun h152 => ?_) (fun h152 => ?_)
                    · refine R_iinc hB (j := 0) (L' := [_, _, _, _, _]) dX8_readsParts_157 rfl (Nat.le_of_ble_eq_true rfl) rfl ?_
                      refine R_goto hB 37 dX8_readsParts_160 rfl ?_
                      exact R_sub [3, 4, 1, 0] rfl (ih_37 _ _ _ (by omega) (by omega) (by omega) (fun j q1 q2 => by
                        by_cases c : j < a + 4
                        · exact G4.2 j q1 c
                        · have cj : j = a + 4 := by omega
                          rw [cj, ← hbb, hfit4, h152]; rfl) hS4 (fun k hk => by rw [s1]; exact h1k k hk) (by rw [s1]; exact h1z) hen4)
                    · refine R_iload_n hB (j := 0) dX8_readsParts_155 rfl rfl ?_
                      exact R_iret hB hE rfl dX8_readsParts_156 (by
                        have hlt : a + 4 < σ 53 ((1 : Nat) : Int) := by show a + 4 < σ 53 1; omega
                        have hff : fitB 1 (mby σ 1 (a + 4)) (a + 4) = false := by rw [← hbb, hfit4]; simp only [decide_eq_false_iff_not]; exact h152
                        refine ⟨Or.inl ⟨by omega, hlt, hff, fun j q1 q2 => G4.2 j q1 q2⟩, hS4, fun k hk => by rw [s1]; exact h1k k hk, ?_, fun s q1 q2 => ?_⟩
                        · rw [s1, h1z]; unfold unP; rw [if_neg (by omega)]
                        · rw [s1, h1z] at q2; omega)
                  · rw [s53] at h106
                    refine R_aload_n hB (j := 3) dX8_readsParts_109 rfl rfl ?_
                    refine R_iload_n hB (j := 4) dX8_readsParts_110 rfl rfl ?_
                    refine R_if_ne hB 118 (by omega) dX8_readsParts_111 rfl (fun h111 => ?_) (fun h111 => ?_)
                    · refine R_aload_n hB (j := 3) dX8_readsParts_118 rfl rfl ?_
                      refine R_geti hB fl_X8_114 dX8_readsParts_119 rfl ?_
                      refine R_canon (fun hcn4 => ?_)
                      refine N_puti hB fp_X8_114 dX8_readsParts_122 rfl (by first | omega | (refine hcn4.i _ _ (by decide) (by decide) (by decide))) (fun σ5 e5 => ?_)
                      refine R_aload_n hB (j := 3) dX8_readsParts_125 rfl rfl ?_
                      refine R_iload_n hB (j := 4) dX8_readsParts_126 rfl rfl ?_
                      refine R_iconst hB dX8_readsParts_127 ?_
                      refine R_icmp_ne hB 135 (by omega) (by omega) dX8_readsParts_128 rfl (fun h128 => ?_) (fun h128 => ?_)
                      · exfalso; omega
                      · refine R_iload_n hB (j := 1) dX8_readsParts_131 rfl rfl ?_
                        refine R_goto hB 139 dX8_readsParts_132 rfl ?_
                        refine N_puti hB fp_X8_117 dX8_readsParts_139 rfl (by first | omega | (rw [e5, up_n (by decide)]; refine hcn4.i _ _ (by decide) (by decide) (by decide))) (fun σ6 e6 => ?_)
                        refine R_iconst hB dX8_readsParts_142 ?_
                        exact R_iret hB hE rfl dX8_readsParts_143 (by
                          have hne : a + 4 = σ 53 1 := by omega
                          have hx1 : ∀ i, i ≠ 1 → σ6 i = σ4 i := fun i hi => by rw [e6, up_row hi, e5, up_row hi]
                          have hxk : σ6 1 7 = n + 1 := by rw [e6, up_s]
                          refine ⟨Or.inr ⟨fun j q1 q2 => G4.2 j q1 (by have : σ 53 ((1 : Nat) : Int) = σ 53 1 := rfl; omega), ?_⟩, fun i hi => ?_, fun k hk => ?_, ?_, fun s q1 q2 => ?_⟩
                          · rw [if_pos (by have : σ 53 ((1 : Nat) : Int) = σ 53 1 := rfl; omega)]
                          · have hi2 := hi
                            simp only [List.mem_cons, List.not_mem_nil, or_false, not_or] at hi2
                            rw [hx1 i hi2.1, hS4 i hi]
                          · rw [e6]
                            by_cases c : k = 2
                            · subst c; rw [up_n (by decide), e5, up_s, s1, h1k 2 (by decide)]
                            · rw [up_n (fun q => hk q.2), e5, up_n (fun q => c q.2), s1, h1k k hk]
                          · rw [hxk]
                            unfold unP
                            rw [if_pos rfl]
                            have : σ 53 ((1 : Nat) : Int) = σ 53 1 := rfl
                            omega
                          · rw [hxk] at q2
                            rw [hx1 59 (by decide), hx1 60 (by decide), hx1 61 (by decide)]
                            exact hen4 s q1 (by omega))
                    · exfalso; omega
                · refine R_iload_n hB (j := 4) dX8_readsParts_88 rfl rfl ?_
                  refine R_iload hB (j := 0) dX8_readsParts_89 rfl ?_
                  refine R_iadd hB dX8_readsParts_91 ?_
                  exact R_iret hB hE rfl dX8_readsParts_92 (by
                    have hlt : z77 < 4 := by omega
                    have hσ : σ4 = σ3 := by
                      rcases g2 with q | q
                      · exact q.2
                      · omega
                    have hff := GdQ_ff g1 hlt (show 0 ≤ a ∧ a ≤ σ 53 ((1 : Nat) : Int) from ⟨by omega, hn.2⟩) (by omega) hft (show a < σ 53 ((1 : Nat) : Int) ∨ (0 < a ∧ a = σ 53 ((1 : Nat) : Int)) from hgo)
                    have hne : a + z77 ≠ -1 := by omega
                    rw [hσ]
                    refine ⟨hff, hS, h1k, ?_, fun s q1 q2 => ?_⟩
                    · rw [h1z]; unfold unP; rw [if_neg hne]
                    · rw [h1z] at q2; omega)
              · exfalso; omega
            · exfalso; omega
          refine R_iload_n hB (j := 3) dX8_readsParts_37 rfl rfl ?_
          refine R_aload_n hB (j := 0) dX8_readsParts_38 rfl rfl ?_
          refine R_getr hB (53) fl_X8_7 dX8_readsParts_39 rfl rfl ?_
          refine R_iload_n hB (j := 1) dX8_readsParts_42 rfl rfl ?_
          refine R_iald hB rfl (by omega) dX8_readsParts_43 ?_
          refine R_icmp_lt hB 51 (by omega) (by rw [r53]; omega) dX8_readsParts_44 rfl (fun h44 => ?_) (fun h44 => ?_)
          · rw [r53] at h44
            exact R_sub [0, 1, 2, 3] rfl (jn_51 () (Or.inl h44))
          · rw [r53] at h44
            refine R_iload_n hB (j := 3) dX8_readsParts_47 rfl rfl ?_
            refine R_if_le hB 163 (by omega) dX8_readsParts_48 rfl (fun h48 => ?_) (fun h48 => ?_)
            · refine R_iconst hB dX8_readsParts_163 ?_
              exact R_iret hB hE rfl dX8_readsParts_164 (by
                have h0 : σ 53 ((1 : Nat) : Int) = 0 := by show σ 53 1 = 0; omega
                refine ⟨Or.inr ⟨fun j q1 q2 => by omega, by rw [h0]; rfl⟩, hS, h1k, ?_, fun s q1 q2 => ?_⟩
                · rw [h1z, h0]; rfl
                · rw [h1z] at q2; omega)
            · exact R_sub [0, 1, 2, 3] rfl (jn_51 () (Or.inr (by omega)))
      exact R_sub [2, 3, 1, 0] rfl (lp_37 _ _ _ _ (Nat.lt_succ_self _) (by omega) (by omega) (fun j q1 q2 => by omega) (fun i hi => by
        simp only [List.mem_cons, List.not_mem_nil, or_false, not_or] at hi
        rw [e2, up_row hi.1, e1, up_row hi.1]) (fun k hk => by
        rw [e2, up_n (fun q => hk q.2), e1]
        by_cases c : k = 2
        · subst c; rw [up_s]
        · rw [up_n (fun q => c q.2)]) (by rw [e2, up_s]) (fun s q1 q2 => by omega))
  · exfalso; omega
