theorem s_moveOf {Θ : Th} {σ : Mem} (s w : Int) (hs : 0 ≤ s ∧ s < σ 0 2) (hw : rng w) (h : InvC σ) (hR : Rel σ) : Spc Θ M_X8_moveOf 1 [.ref (Th.r Θ 1), .int (I s), .int (I w)] σ (fun r σ' => FrM σ σ' ∧ RR σ' ∧ r = if w = 0 then amx (mvP σ s.toNat) 10 else amv (mvP σ s.toNat) 10) := by
  refine Spc_of (by decide +kernel) (Nat.le_of_ble_eq_true rfl) (fun Γ hB hE => ?_)
  show Run Θ Γ 0 [(0, .ref (Th.r Θ 1)), (1, .int (I s)), (2, .int (I w))] [] σ
  have hns := h.ns
  have hds := h.row.1
  have f0 : ∀ j, 0 ≤ mvP σ s.toNat j ∧ mvP σ s.toNat j ≤ (σ 2 4).toNat := fun j => cnt_in _ _
  refine R_aload_n hB (j := 0) dX8_moveOf_0 rfl rfl ?_
  refine R_cV0 hB (s_asTold h hR) mv_X8_171 rfl rfl (by decide) dX8_moveOf_1 rfl rfl (Nat.le_of_ble_eq_true rfl) (fun σ1 h1 => ?_)
  obtain ⟨f1, f2, f3, f4⟩ := h1
  have r0 : σ1 0 = σ 0 := f1.1 0 (by decide)
  have r2 : σ1 2 = σ 2 := f1.1 2 (by decide)
  have n2 : σ1 1 2 = σ 0 2 := by rw [f2.2.2.1, r0]
  have n7 : σ1 1 7 = σ 2 4 := by rw [f2.2.2.2.1, r2]
  refine R_canon (fun hcn => ?_)
  have q55 := hcn.i 55 s (by decide) (by decide) (by decide)
  refine R_aload_n hB (j := 0) dX8_moveOf_4 rfl rfl ?_
  refine R_getr hB (55) fl_X8_16 dX8_moveOf_5 rfl rfl ?_
  refine R_iload_n hB (j := 1) dX8_moveOf_8 rfl rfl ?_
  refine R_iald hB rfl (by omega) dX8_moveOf_9 ?_
  refine R_istore_n hB (L' := [_, _, _, _]) dX8_moveOf_10 rfl (Nat.le_of_ble_eq_true rfl) rfl ?_
  refine R_iconst hB dX8_moveOf_11 ?_
  refine R_istore hB (L' := [_, _, _, _, _]) dX8_moveOf_12 (Nat.le_of_ble_eq_true rfl) rfl ?_
  refine R_iconst hB dX8_moveOf_14 ?_
  refine R_istore hB (L' := [_, _, _, _, _, _]) dX8_moveOf_15 (Nat.le_of_ble_eq_true rfl) rfl ?_
  refine R_iconst hB dX8_moveOf_17 ?_
  refine R_istore hB (L' := [_, _, _, _, _, _, _]) dX8_moveOf_18 (Nat.le_of_ble_eq_true rfl) rfl ?_
  have lp_20 : ∀ (n_20 : Nat) (be mo g : Int) (σ2 : Mem), ((10 - g).toNat) < n_20 → (0 ≤ g ∧ g ≤ 10) → (Same [55, 62, 63, 64, 65, 66] σ1 σ2) → (∀ j, j ≠ s → σ2 55 j = σ1 55 j) → (be = amx (mvP σ s.toNat) g.toNat) → (mo = amv (mvP σ s.toNat) g.toNat) → Run Θ Γ 20 [(0, .ref (Th.r Θ 1)), (1, .int (I s)), (2, .int (I w)), (3, .int (I (σ1 55 (s)))), (4, .int (I be)), (5, .int (I mo)), (6, .int (I g))] [] σ2 := by
    intro n_20
    induction n_20 with
    | zero => intro be mo g σ2 h_m; exact absurd h_m (Nat.not_lt_zero _)
    | succ n_20 ih_20 =>
      intro be mo g σ2 h_m hg hS ho hbe hmo
      have hA := amx_amv (f := mvP σ s.toNat) (n := g.toNat) (fun j _ => (f0 j).1)
      have hmb : -1 ≤ mo ∧ mo ≤ 8 := by
        rw [hmo]
        by_cases c : g.toNat = 0
        · rw [(hA.1 c).2]; omega
        · have q1 := (hA.2 (by omega)).2.2
          have q2 := f0 (amx (mvP σ s.toNat) g.toNat).toNat
          omega
      refine R_iload hB (j := 6) dX8_moveOf_20 rfl ?_
      refine R_bipush hB dX8_moveOf_22 rfl ?_
      refine R_icmp_ge hB 83 (by omega) (by omega) dX8_moveOf_24 rfl (fun h24 => ?_) (fun h24 => ?_)
      · refine R_aload_n hB (j := 0) dX8_moveOf_83 rfl rfl ?_
        refine R_getr hB (55) fl_X8_16 dX8_moveOf_84 rfl rfl ?_
        refine R_iload_n hB (j := 1) dX8_moveOf_87 rfl rfl ?_
        refine R_iload_n hB (j := 3) dX8_moveOf_88 rfl rfl ?_
        refine N_iast hB rfl (by omega) (q55) dX8_moveOf_89 (fun σ5 e5 => ?_)
        have hg4 : g = 10 := by omega
        rw [hg4] at hbe hmo
        have hb5 : σ5 55 = σ1 55 := by
          funext j
          rw [e5]
          by_cases c : j = s
          · rw [c, up_s]
          · rw [up_n (by omega), ho j c]
        have hS5 : Same [55, 62, 63, 64, 65, 66] σ1 σ5 := by rw [e5]; exact hS.tr (Same.up (by decide)) (fun _ q => q) (fun _ q => q)
        refine R_iload_n hB (j := 2) dX8_moveOf_90 rfl rfl ?_
        refine R_if_ne hB 99 (by omega) dX8_moveOf_91 rfl (fun h91 => ?_) (fun h91 => ?_)
        · refine R_iload hB (j := 5) dX8_moveOf_99 rfl ?_
          exact R_iret hB hE rfl dX8_moveOf_101 (by
            refine ⟨f1.tr (FrM.row 55 (by decide) hS5), f2.back 55 (by decide) hS5 hb5, ?_⟩
            first
            | (rw [if_pos h91]; exact hbe)
            | (rw [if_neg h91]; exact hmo))
        · refine R_iload hB (j := 4) dX8_moveOf_94 rfl ?_
          refine R_goto hB 101 dX8_moveOf_96 rfl ?_
          exact R_iret hB hE rfl dX8_moveOf_101 (by
            refine ⟨f1.tr (FrM.row 55 (by decide) hS5), f2.back 55 (by decide) hS5 hb5, ?_⟩
            first
            | (rw [if_pos h91]; exact hbe)
            | (rw [if_neg h91]; exact hmo))
      · refine R_aload_n hB (j := 0) dX8_moveOf_27 rfl rfl ?_
        refine R_getr hB (55) fl_X8_16 dX8_moveOf_28 rfl rfl ?_
        refine R_iload_n hB (j := 1) dX8_moveOf_31 rfl rfl ?_
        refine R_iload hB (j := 6) dX8_moveOf_32 rfl ?_
        refine N_iast hB rfl (by omega) (by omega) dX8_moveOf_34 (fun σ3 e3 => ?_)
        have hS3 : Same [55, 62, 63, 64, 65, 66] σ1 σ3 := by rw [e3]; exact hS.tr (Same.up (by decide)) (fun _ q => q) (fun _ q => q)
        have ho3 : ∀ j, j ≠ s → σ3 55 j = σ1 55 j := fun j hj => by rw [e3, up_n (by omega), ho j hj]
        have hh3 : σ3 55 s = g := by rw [e3, up_s]
        refine R_aload_n hB (j := 0) dX8_moveOf_35 rfl rfl ?_
        refine R_cV0 hB (s_runs (mv_npre f2 f3 f4 hS3 ho3 hh3 (by omega))) mv_X8_174 rfl rfl (by decide) dX8_moveOf_36 rfl rfl (Nat.le_of_ble_eq_true rfl) (fun σ4 h36 => ?_)
        have wv := move_w f2 f3 f4 hS3 ho3 hh3 (by rw [r0]; exact hs) (by omega) h36
        rw [mm_mvP f1.1 hns.2 (by omega)] at wv
        have k62 : σ4 1 2 = σ 0 2 := by rw [h36.1 1 (by decide), hS3 1 (by decide), n2]
        have k67 : σ4 1 7 = σ 2 4 := by rw [h36.1 1 (by decide), hS3 1 (by decide), n7]
        have hS4 : Same [55, 62, 63, 64, 65, 66] σ1 σ4 := hS3.tr h36.1 (fun _ q => q) (fun i q => by simp only [List.mem_cons, List.not_mem_nil, or_false] at *; omega)
        have ho4 : ∀ j, j ≠ s → σ4 55 j = σ1 55 j := fun j hj => by rw [h36.1 55 (by decide), ho3 j hj]
        have hst := am_step (f := mvP σ s.toNat) (n := g.toNat) (fun j => (f0 j).1) hbe hmo rfl
        have f0g := f0 g.toNat
        have heg : ((g.toNat : Nat) : Int) = g := by omega
        have heg1 : (g + 1).toNat = g.toNat + 1 := by omega
        refine R_aload_n hB (j := 0) dX8_moveOf_39 rfl rfl ?_
        refine P_cV1 hB (s_provenNow (by rw [k62]; omega) (by rw [k67]; omega)) mv_X8_217 rfl rfl (by decide) dX8_moveOf_40 rfl rfl (Nat.le_of_ble_eq_true rfl) (fun z40 h40 => ?_)
        rw [wv] at h40
        rw [← h40] at hst f0g
        refine R_istore hB (L' := [_, _, _, _, _, _, _, _]) dX8_moveOf_43 (Nat.le_of_ble_eq_true rfl) rfl ?_
        refine R_iload hB (j := 0) dX8_moveOf_45 rfl ?_
        refine R_iload hB (j := 6) dX8_moveOf_47 rfl ?_
        have jn_59 : ∀ (x : Int), (x = amx (mvP σ s.toNat) (g + 1).toNat) → Run Θ Γ 59 [(0, .ref (Th.r Θ 1)), (1, .int (I s)), (2, .int (I w)), (3, .int (I (σ1 55 (s)))), (4, .int (I be)), (5, .int (I mo)), (6, .int (I g)), (7, .int (I z40))] [.int (I x)] σ4 := by
          intro x hx
          refine R_istore hB (L' := [_, _, _, _, _, _, _, _]) dX8_moveOf_59 (Nat.le_of_ble_eq_true rfl) rfl ?_
          refine R_iload hB (j := 7) dX8_moveOf_61 rfl ?_
          refine R_iload hB (j := 5) dX8_moveOf_63 rfl ?_
          have jn_75 : ∀ (y : Int), (y = amv (mvP σ s.toNat) (g + 1).toNat) → Run Θ Γ 75 [(0, .ref (Th.r Θ 1)), (1, .int (I s)), (2, .int (I w)), (3, .int (I (σ1 55 (s)))), (4, .int (I x)), (5, .int (I mo)), (6, .int (I g)), (7, .int (I z40))] [.int (I y)] σ4 := by
            intro y hy
            refine R_istore hB (L' := [_, _, _, _, _, _, _, _]) dX8_moveOf_75 (Nat.le_of_ble_eq_true rfl) rfl ?_
            refine R_iinc hB (j := 6) (L' := [_, _, _, _, _, _, _, _]) dX8_moveOf_77 rfl (Nat.le_of_ble_eq_true rfl) rfl ?_
            refine R_goto hB 20 dX8_moveOf_80 rfl ?_
            exact R_sub [2, 3, 4, 5, 6, 1, 0] rfl (ih_20 _ _ _ _ (by omega) (by omega) hS4 ho4 hx hy)
          refine R_icmp_le hB 73 (by omega) (by omega) dX8_moveOf_65 rfl (fun h65 => ?_) (fun h65 => ?_)
          · refine R_iload hB (j := 5) dX8_moveOf_73 rfl ?_
            exact R_sub [1, 2, 3, 4, 0, 5, 6, 7] rfl (jn_75 _ (by rw [heg1]; exact (hst.2 h65).2))
          · refine R_iload hB (j := 7) dX8_moveOf_68 rfl ?_
            refine R_goto hB 75 dX8_moveOf_70 rfl ?_
            exact R_sub [1, 2, 3, 4, 0, 5, 6, 7] rfl (jn_75 _ (by rw [heg1]; exact (hst.1 h65).2))
        refine R_icmp_le hB 57 (by omega) (by omega) dX8_moveOf_49 rfl (fun h49 => ?_) (fun h49 => ?_)
        · refine R_iload hB (j := 5) dX8_moveOf_57 rfl ?_
          exact R_sub [1, 2, 3, 4, 5, 6, 7, 0] rfl (jn_59 _ (by rw [heg1]; exact (hst.2 h49).1))
        · refine R_iload hB (j := 7) dX8_moveOf_52 rfl ?_
          refine R_goto hB 59 dX8_moveOf_54 rfl ?_
          exact R_sub [1, 2, 3, 4, 5, 6, 7, 0] rfl (jn_59 _ (by rw [heg1, ← (hst.1 h49).1]; exact heg.symm))
  exact R_sub [4, 5, 6, 3, 2, 1, 0] rfl (lp_20 _ _ _ _ _ (Nat.lt_succ_self _) (by omega) Same.rf (fun j hj => rfl) rfl rfl)

theorem s_mmove {Θ : Th} {σ : Mem} (s w : Int) (hs0 : rng s) (hw : rng w) (h : InvC σ) (hR : Rel σ) : Spc Θ M_X8_move 1 [.ref (Th.r Θ 1), .int (I s), .int (I w)] σ (fun r σ' => FrM σ σ' ∧ r = if (0 ≤ s ∧ s < σ 0 2) ∧ (0 ≤ w ∧ w < 2) then (if w = 0 then amx (mvP σ s.toNat) 10 else amv (mvP σ s.toNat) 10) else -2) := by
  refine Spc_of (by decide +kernel) (Nat.le_of_ble_eq_true rfl) (fun Γ hB hE => ?_)
  show Run Θ Γ 0 [(0, .ref (Th.r Θ 1)), (1, .int (I s)), (2, .int (I w))] [] σ
  refine R_aload_n hB (j := 0) dX8_move_0 rfl rfl ?_
  refine R_iload_n hB (j := 1) dX8_move_1 rfl rfl ?_
  refine R_cV1 hB (s_isSleeper _ hs0 h hR) mv_X8_136 rfl rfl (by decide) dX8_move_2 rfl rfl (Nat.le_of_ble_eq_true rfl) (fun z2 σ1 h2 => ?_)
  obtain ⟨f1, f2, f3⟩ := h2
  have hns := h.ns
  have hds := h.row.1
  refine R_if_eq hB 26 (by rw [f3]; split <;> omega) dX8_move_5 rfl (fun h5 => ?_) (fun h5 => ?_)
  · have hc : ¬ (0 ≤ s ∧ s < σ 0 2) := fun q => by
      rw [if_pos q] at f3
      omega
    refine R_bipush hB dX8_move_26 rfl ?_
    exact R_iret hB hE rfl dX8_move_28 (by
      first
      | exact ⟨f1.tr k1, by rw [if_pos (by omega)]; exact k3⟩
      | exact ⟨f1, by rw [if_neg (by omega)]⟩)
  · have hc : 0 ≤ s ∧ s < σ 0 2 := by
      by_cases q : 0 ≤ s ∧ s < σ 0 2
      · exact q
      · rw [if_neg q] at f3; omega
    refine R_iload_n hB (j := 2) dX8_move_8 rfl rfl ?_
    refine R_iconst hB dX8_move_9 ?_
    refine R_iconst hB dX8_move_10 ?_
    refine P_cS1 hB (s_in _ _ _ (by omega) (by omega) (by omega)) ms_X8_98 (by decide) dX8_move_11 rfl rfl (Nat.le_of_ble_eq_true rfl) (fun z11 h11 => ?_)
    refine R_if_eq hB 26 (by rw [h11]; split <;> omega) dX8_move_14 rfl (fun h14 => ?_) (fun h14 => ?_)
    · have hd : ¬ (0 ≤ w ∧ w ≤ 1) := fun q => by
        rw [if_pos q] at h11
        omega
      refine R_bipush hB dX8_move_26 rfl ?_
      exact R_iret hB hE rfl dX8_move_28 (by
        first
        | exact ⟨f1.tr k1, by rw [if_pos (by omega)]; exact k3⟩
        | exact ⟨f1, by rw [if_neg (by omega)]⟩)
    · have hd : 0 ≤ w ∧ w ≤ 1 := by
        by_cases q : 0 ≤ w ∧ w ≤ 1
        · exact q
        · rw [if_neg q] at h11; omega
      refine R_aload_n hB (j := 0) dX8_move_17 rfl rfl ?_
      refine R_iload_n hB (j := 1) dX8_move_18 rfl rfl ?_
      refine R_iload_n hB (j := 2) dX8_move_19 rfl rfl ?_
      refine R_cV1 hB (s_moveOf _ _ (by rw [f1.1 0 (by decide)]; exact hc) hw f2.1 f2.2.1) mv_X8_220 rfl rfl (by decide) dX8_move_20 rfl rfl (Nat.le_of_ble_eq_true rfl) (fun z20 σ2 h20 => ?_)
      obtain ⟨k1, k2, k3⟩ := h20
      rw [mm_mvP f1.1 hns.2 (by omega)] at k3
      refine R_goto hB 28 dX8_move_23 rfl ?_
      exact R_iret hB hE rfl dX8_move_28 (by
        first
        | exact ⟨f1.tr k1, by rw [if_pos (by omega)]; exact k3⟩
        | exact ⟨f1, by rw [if_neg (by omega)]⟩)

theorem s_feedOf {Θ : Th} {σ : Mem} (s w : Int) (hs : 0 ≤ s ∧ s < σ 0 2) (hw : rng w) (h : InvC σ) (hR : Rel σ) : Spc Θ M_X8_feedOf 1 [.ref (Th.r Θ 1), .int (I s), .int (I w)] σ (fun r σ' => FrM σ σ' ∧ RR σ' ∧ r = if w = 0 then amx (fdP σ s.toNat) 4 else amv (fdP σ s.toNat) 4) := by
  refine Spc_of (by decide +kernel) (Nat.le_of_ble_eq_true rfl) (fun Γ hB hE => ?_)
  show Run Θ Γ 0 [(0, .ref (Th.r Θ 1)), (1, .int (I s)), (2, .int (I w))] [] σ
  have hns := h.ns
  have hds := h.row.1
  have f0 : ∀ j, 0 ≤ fdP σ s.toNat j ∧ fdP σ s.toNat j ≤ (σ 2 4).toNat := fun j => cnt_in _ _
  refine R_aload_n hB (j := 0) dX8_feedOf_0 rfl rfl ?_
  refine R_cV0 hB (s_asTold h hR) mv_X8_171 rfl rfl (by decide) dX8_feedOf_1 rfl rfl (Nat.le_of_ble_eq_true rfl) (fun σ1 h1 => ?_)
  obtain ⟨f1, f2, f3, f4⟩ := h1
  have r0 : σ1 0 = σ 0 := f1.1 0 (by decide)
  have r2 : σ1 2 = σ 2 := f1.1 2 (by decide)
  have n2 : σ1 1 2 = σ 0 2 := by rw [f2.2.2.1, r0]
  have n7 : σ1 1 7 = σ 2 4 := by rw [f2.2.2.2.1, r2]
  refine R_canon (fun hcn => ?_)
  have q55 := hcn.i 57 s (by decide) (by decide) (by decide)
  refine R_aload_n hB (j := 0) dX8_feedOf_4 rfl rfl ?_
  refine R_getr hB (57) fl_X8_22 dX8_feedOf_5 rfl rfl ?_
  refine R_iload_n hB (j := 1) dX8_feedOf_8 rfl rfl ?_
  refine R_iald hB rfl (by omega) dX8_feedOf_9 ?_
  refine R_istore_n hB (L' := [_, _, _, _]) dX8_feedOf_10 rfl (Nat.le_of_ble_eq_true rfl) rfl ?_
  refine R_iconst hB dX8_feedOf_11 ?_
  refine R_istore hB (L' := [_, _, _, _, _]) dX8_feedOf_12 (Nat.le_of_ble_eq_true rfl) rfl ?_
  refine R_iconst hB dX8_feedOf_14 ?_
  refine R_istore hB (L' := [_, _, _, _, _, _]) dX8_feedOf_15 (Nat.le_of_ble_eq_true rfl) rfl ?_
  refine R_iconst hB dX8_feedOf_17 ?_
  refine R_istore hB (L' := [_, _, _, _, _, _, _]) dX8_feedOf_18 (Nat.le_of_ble_eq_true rfl) rfl ?_
  have lp_20 : ∀ (n_20 : Nat) (be mo g : Int) (σ2 : Mem), ((4 - g).toNat) < n_20 → (0 ≤ g ∧ g ≤ 4) → (Same [57, 62, 63, 64, 65, 66] σ1 σ2) → (∀ j, j ≠ s → σ2 57 j = σ1 57 j) → (be = amx (fdP σ s.toNat) g.toNat) → (mo = amv (fdP σ s.toNat) g.toNat) → Run Θ Γ 20 [(0, .ref (Th.r Θ 1)), (1, .int (I s)), (2, .int (I w)), (3, .int (I (σ1 57 (s)))), (4, .int (I be)), (5, .int (I mo)), (6, .int (I g))] [] σ2 := by
    intro n_20
    induction n_20 with
    | zero => intro be mo g σ2 h_m; exact absurd h_m (Nat.not_lt_zero _)
    | succ n_20 ih_20 =>
      intro be mo g σ2 h_m hg hS ho hbe hmo
      have hA := amx_amv (f := fdP σ s.toNat) (n := g.toNat) (fun j _ => (f0 j).1)
      have hmb : -1 ≤ mo ∧ mo ≤ 8 := by
        rw [hmo]
        by_cases c : g.toNat = 0
        · rw [(hA.1 c).2]; omega
        · have q1 := (hA.2 (by omega)).2.2
          have q2 := f0 (amx (fdP σ s.toNat) g.toNat).toNat
          omega
      refine R_iload hB (j := 6) dX8_feedOf_20 rfl ?_
      refine R_iconst hB dX8_feedOf_22 ?_
      refine R_icmp_ge hB 83 (by omega) (by omega) dX8_feedOf_23 rfl (fun h23 => ?_) (fun h23 => ?_)
      · refine R_aload_n hB (j := 0) dX8_feedOf_83 rfl rfl ?_
        refine R_getr hB (57) fl_X8_22 dX8_feedOf_84 rfl rfl ?_
        refine R_iload_n hB (j := 1) dX8_feedOf_87 rfl rfl ?_
        refine R_iload_n hB (j := 3) dX8_feedOf_88 rfl rfl ?_
        refine N_iast hB rfl (by omega) (q55) dX8_feedOf_89 (fun σ5 e5 => ?_)
        have hg4 : g = 4 := by omega
        rw [hg4] at hbe hmo
        have hb5 : σ5 57 = σ1 57 := by
          funext j
          rw [e5]
          by_cases c : j = s
          · rw [c, up_s]
          · rw [up_n (by omega), ho j c]
        have hS5 : Same [57, 62, 63, 64, 65, 66] σ1 σ5 := by rw [e5]; exact hS.tr (Same.up (by decide)) (fun _ q => q) (fun _ q => q)
        refine R_iload_n hB (j := 2) dX8_feedOf_90 rfl rfl ?_
        refine R_if_ne hB 99 (by omega) dX8_feedOf_91 rfl (fun h91 => ?_) (fun h91 => ?_)
        · refine R_iload hB (j := 5) dX8_feedOf_99 rfl ?_
          exact R_iret hB hE rfl dX8_feedOf_101 (by
            refine ⟨f1.tr (FrM.row 57 (by decide) hS5), f2.back 57 (by decide) hS5 hb5, ?_⟩
            first
            | (rw [if_pos h91]; exact hbe)
            | (rw [if_neg h91]; exact hmo))
        · refine R_iload hB (j := 4) dX8_feedOf_94 rfl ?_
          refine R_goto hB 101 dX8_feedOf_96 rfl ?_
          exact R_iret hB hE rfl dX8_feedOf_101 (by
            refine ⟨f1.tr (FrM.row 57 (by decide) hS5), f2.back 57 (by decide) hS5 hb5, ?_⟩
            first
            | (rw [if_pos h91]; exact hbe)
            | (rw [if_neg h91]; exact hmo))
      · refine R_aload_n hB (j := 0) dX8_feedOf_26 rfl rfl ?_
        refine R_getr hB (57) fl_X8_22 dX8_feedOf_27 rfl rfl ?_
        refine R_iload_n hB (j := 1) dX8_feedOf_30 rfl rfl ?_
        refine R_iload hB (j := 6) dX8_feedOf_31 rfl ?_
        refine N_iast hB rfl (by omega) (by omega) dX8_feedOf_33 (fun σ3 e3 => ?_)
        have hS3 : Same [57, 62, 63, 64, 65, 66] σ1 σ3 := by rw [e3]; exact hS.tr (Same.up (by decide)) (fun _ q => q) (fun _ q => q)
        have ho3 : ∀ j, j ≠ s → σ3 57 j = σ1 57 j := fun j hj => by rw [e3, up_n (by omega), ho j hj]
        have hh3 : σ3 57 s = g := by rw [e3, up_s]
        refine R_aload_n hB (j := 0) dX8_feedOf_34 rfl rfl ?_
        refine R_cV0 hB (s_runs (fd_npre f2 f3 f4 hS3 ho3 hh3 (by omega))) mv_X8_174 rfl rfl (by decide) dX8_feedOf_35 rfl rfl (Nat.le_of_ble_eq_true rfl) (fun σ4 h35 => ?_)
        have wv := feed_w f2 f3 f4 hS3 hh3 (by rw [r0]; exact hs) (by omega) h35
        rw [mm_fdP f1.1 (by omega)] at wv
        have k62 : σ4 1 2 = σ 0 2 := by rw [h35.1 1 (by decide), hS3 1 (by decide), n2]
        have k67 : σ4 1 7 = σ 2 4 := by rw [h35.1 1 (by decide), hS3 1 (by decide), n7]
        have hS4 : Same [57, 62, 63, 64, 65, 66] σ1 σ4 := hS3.tr h35.1 (fun _ q => q) (fun i q => by simp only [List.mem_cons, List.not_mem_nil, or_false] at *; omega)
        have ho4 : ∀ j, j ≠ s → σ4 57 j = σ1 57 j := fun j hj => by rw [h35.1 57 (by decide), ho3 j hj]
        have hst := am_step (f := fdP σ s.toNat) (n := g.toNat) (fun j => (f0 j).1) hbe hmo rfl
        have f0g := f0 g.toNat
        have heg : ((g.toNat : Nat) : Int) = g := by omega
        have heg1 : (g + 1).toNat = g.toNat + 1 := by omega
        refine R_aload_n hB (j := 0) dX8_feedOf_38 rfl rfl ?_
        refine R_iload_n hB (j := 1) dX8_feedOf_39 rfl rfl ?_
        refine P_cV1 hB (s_manyOf s (by omega) (by rw [k67]; omega)) mv_X8_198 rfl rfl (by decide) dX8_feedOf_40 rfl rfl (Nat.le_of_ble_eq_true rfl) (fun z40 h40 => ?_)
        rw [wv] at h40
        rw [← h40] at hst f0g
        refine R_istore hB (L' := [_, _, _, _, _, _, _, _]) dX8_feedOf_43 (Nat.le_of_ble_eq_true rfl) rfl ?_
        refine R_iload hB (j := 0) dX8_feedOf_45 rfl ?_
        refine R_iload hB (j := 6) dX8_feedOf_47 rfl ?_
        have jn_59 : ∀ (x : Int), (x = amx (fdP σ s.toNat) (g + 1).toNat) → Run Θ Γ 59 [(0, .ref (Th.r Θ 1)), (1, .int (I s)), (2, .int (I w)), (3, .int (I (σ1 57 (s)))), (4, .int (I be)), (5, .int (I mo)), (6, .int (I g)), (7, .int (I z40))] [.int (I x)] σ4 := by
          intro x hx
          refine R_istore hB (L' := [_, _, _, _, _, _, _, _]) dX8_feedOf_59 (Nat.le_of_ble_eq_true rfl) rfl ?_
          refine R_iload hB (j := 7) dX8_feedOf_61 rfl ?_
          refine R_iload hB (j := 5) dX8_feedOf_63 rfl ?_
          have jn_75 : ∀ (y : Int), (y = amv (fdP σ s.toNat) (g + 1).toNat) → Run Θ Γ 75 [(0, .ref (Th.r Θ 1)), (1, .int (I s)), (2, .int (I w)), (3, .int (I (σ1 57 (s)))), (4, .int (I x)), (5, .int (I mo)), (6, .int (I g)), (7, .int (I z40))] [.int (I y)] σ4 := by
            intro y hy
            refine R_istore hB (L' := [_, _, _, _, _, _, _, _]) dX8_feedOf_75 (Nat.le_of_ble_eq_true rfl) rfl ?_
            refine R_iinc hB (j := 6) (L' := [_, _, _, _, _, _, _, _]) dX8_feedOf_77 rfl (Nat.le_of_ble_eq_true rfl) rfl ?_
            refine R_goto hB 20 dX8_feedOf_80 rfl ?_
            exact R_sub [2, 3, 4, 5, 6, 1, 0] rfl (ih_20 _ _ _ _ (by omega) (by omega) hS4 ho4 hx hy)
          refine R_icmp_le hB 73 (by omega) (by omega) dX8_feedOf_65 rfl (fun h65 => ?_) (fun h65 => ?_)
          · refine R_iload hB (j := 5) dX8_feedOf_73 rfl ?_
            exact R_sub [1, 2, 3, 4, 0, 5, 6, 7] rfl (jn_75 _ (by rw [heg1]; exact (hst.2 h65).2))
          · refine R_iload hB (j := 7) dX8_feedOf_68 rfl ?_
            refine R_goto hB 75 dX8_feedOf_70 rfl ?_
            exact R_sub [1, 2, 3, 4, 0, 5, 6, 7] rfl (jn_75 _ (by rw [heg1]; exact (hst.1 h65).2))
        refine R_icmp_le hB 57 (by omega) (by omega) dX8_feedOf_49 rfl (fun h49 => ?_) (fun h49 => ?_)
        · refine R_iload hB (j := 5) dX8_feedOf_57 rfl ?_
          exact R_sub [1, 2, 3, 4, 5, 6, 7, 0] rfl (jn_59 _ (by rw [heg1]; exact (hst.2 h49).1))
        · refine R_iload hB (j := 7) dX8_feedOf_52 rfl ?_
          refine R_goto hB 59 dX8_feedOf_54 rfl ?_
          exact R_sub [1, 2, 3, 4, 5, 6, 7, 0] rfl (jn_59 _ (by rw [heg1, ← (hst.1 h49).1]; exact heg.symm))
  exact R_sub [4, 5, 6, 3, 2, 1, 0] rfl (lp_20 _ _ _ _ _ (Nat.lt_succ_self _) (by omega) Same.rf (fun j hj => rfl) rfl rfl)

theorem s_mfeed {Θ : Th} {σ : Mem} (s w : Int) (hs0 : rng s) (hw : rng w) (h : InvC σ) (hR : Rel σ) : Spc Θ M_X8_feed 1 [.ref (Th.r Θ 1), .int (I s), .int (I w)] σ (fun r σ' => FrM σ σ' ∧ r = if (0 ≤ s ∧ s < σ 0 2) ∧ (0 ≤ w ∧ w < 2) then (if w = 0 then amx (fdP σ s.toNat) 4 else amv (fdP σ s.toNat) 4) else -2) := by
  refine Spc_of (by decide +kernel) (Nat.le_of_ble_eq_true rfl) (fun Γ hB hE => ?_)
  show Run Θ Γ 0 [(0, .ref (Th.r Θ 1)), (1, .int (I s)), (2, .int (I w))] [] σ
  refine R_aload_n hB (j := 0) dX8_feed_0 rfl rfl ?_
  refine R_iload_n hB (j := 1) dX8_feed_1 rfl rfl ?_
  refine R_cV1 hB (s_isSleeper _ hs0 h hR) mv_X8_136 rfl rfl (by decide) dX8_feed_2 rfl rfl (Nat.le_of_ble_eq_true rfl) (fun z2 σ1 h2 => ?_)
  obtain ⟨f1, f2, f3⟩ := h2
  have hns := h.ns
  have hds := h.row.1
  refine R_if_eq hB 26 (by rw [f3]; split <;> omega) dX8_feed_5 rfl (fun h5 => ?_) (fun h5 => ?_)
  · have hc : ¬ (0 ≤ s ∧ s < σ 0 2) := fun q => by
      rw [if_pos q] at f3
      omega
    refine R_bipush hB dX8_feed_26 rfl ?_
    exact R_iret hB hE rfl dX8_feed_28 (by
      first
      | exact ⟨f1.tr k1, by rw [if_pos (by omega)]; exact k3⟩
      | exact ⟨f1, by rw [if_neg (by omega)]⟩)
  · have hc : 0 ≤ s ∧ s < σ 0 2 := by
      by_cases q : 0 ≤ s ∧ s < σ 0 2
      · exact q
      · rw [if_neg q] at f3; omega
    refine R_iload_n hB (j := 2) dX8_feed_8 rfl rfl ?_
    refine R_iconst hB dX8_feed_9 ?_
    refine R_iconst hB dX8_feed_10 ?_
    refine P_cS1 hB (s_in _ _ _ (by omega) (by omega) (by omega)) ms_X8_98 (by decide) dX8_feed_11 rfl rfl (Nat.le_of_ble_eq_true rfl) (fun z11 h11 => ?_)
    refine R_if_eq hB 26 (by rw [h11]; split <;> omega) dX8_feed_14 rfl (fun h14 => ?_) (fun h14 => ?_)
    · have hd : ¬ (0 ≤ w ∧ w ≤ 1) := fun q => by
        rw [if_pos q] at h11
        omega
      refine R_bipush hB dX8_feed_26 rfl ?_
      exact R_iret hB hE rfl dX8_feed_28 (by
        first
        | exact ⟨f1.tr k1, by rw [if_pos (by omega)]; exact k3⟩
        | exact ⟨f1, by rw [if_neg (by omega)]⟩)
    · have hd : 0 ≤ w ∧ w ≤ 1 := by
        by_cases q : 0 ≤ w ∧ w ≤ 1
        · exact q
        · rw [if_neg q] at h11; omega
      refine R_aload_n hB (j := 0) dX8_feed_17 rfl rfl ?_
      refine R_iload_n hB (j := 1) dX8_feed_18 rfl rfl ?_
      refine R_iload_n hB (j := 2) dX8_feed_19 rfl rfl ?_
      refine R_cV1 hB (s_feedOf _ _ (by rw [f1.1 0 (by decide)]; exact hc) hw f2.1 f2.2.1) mv_X8_232 rfl rfl (by decide) dX8_feed_20 rfl rfl (Nat.le_of_ble_eq_true rfl) (fun z20 σ2 h20 => ?_)
      obtain ⟨k1, k2, k3⟩ := h20
      rw [mm_fdP f1.1 (by omega)] at k3
      refine R_goto hB 28 dX8_feed_23 rfl ?_
      exact R_iret hB hE rfl dX8_feed_28 (by
        first
        | exact ⟨f1.tr k1, by rw [if_pos (by omega)]; exact k3⟩
        | exact ⟨f1, by rw [if_neg (by omega)]⟩)
