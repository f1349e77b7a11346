theorem s_byAllNow {Θ : Th} {σ : Mem} (h : InvC σ) (hR : Rel σ) : Spc Θ M_X8_byAllNow 1 [.ref (Th.r Θ 1)] σ (fun r σ' => FrM σ σ' ∧ RR σ' ∧ r = cBA σ) := by
  refine Spc_of (by decide +kernel) (Nat.le_of_ble_eq_true rfl) (fun Γ hB hE => ?_)
  show Run Θ Γ 0 [(0, .ref (Th.r Θ 1))] [] σ
  refine R_aload_n hB (j := 0) dX8_byAllNow_0 rfl rfl ?_
  refine R_cV0 hB (s_runsTold h hR) mv_X8_177 rfl rfl (by decide) dX8_byAllNow_1 rfl rfl (Nat.le_of_ble_eq_true rfl) (fun σ1 h1 => ?_)
  obtain ⟨f1, f2⟩ := h1
  have hns := h.ns
  have hds := h.row.1
  have r0 : σ1 0 = σ 0 := f1.1 0 (by decide)
  have r2 : σ1 2 = σ 2 := f1.1 2 (by decide)
  have r25 : σ1 25 = σ 25 := f1.1 25 (by decide)
  have n2 : σ1 1 2 = σ 0 2 := by rw [f2.1.2.2.1, r0]
  have n7 : σ1 1 7 = σ 2 4 := by rw [f2.1.2.2.2.1, r2]
  have qf : ∀ s d : Int, 0 ≤ s → s < σ 0 2 → 0 ≤ d → d < σ 2 4 → σ1 64 (8 * d + s) = cFT σ s.toNat d := fun s d s1 s2 d1 d2 => by
    have q := ((f2.2.2.2 s.toNat (by rw [r0]; omega)).1 d d1 (by rw [r2]; exact d2)).1
    rw [show ((s.toNat : Nat) : Int) = s by omega, cFT_mm f1.1 (by omega)] at q
    exact q
  refine R_iconst hB dX8_byAllNow_4 ?_
  refine R_istore_n hB (L' := [_, _]) dX8_byAllNow_5 rfl (Nat.le_of_ble_eq_true rfl) rfl ?_
  have lp_6 : ∀ (n_6 : Nat) (d : Int), ((σ 2 4 - d).toNat) < n_6 → (0 ≤ d ∧ d ≤ σ 2 4) → (∀ j : Nat, (j : Int) < d → allS σ (σ 0 2).toNat j = false) → Run Θ Γ 6 [(0, .ref (Th.r Θ 1)), (1, .int (I d))] [] σ1 := by
    intro n_6
    induction n_6 with
    | zero => intro d h_m; exact absurd h_m (Nat.not_lt_zero _)
    | succ n_6 ih_6 =>
      intro d h_m hd hno
      refine R_iload_n hB (j := 1) dX8_byAllNow_6 rfl rfl ?_
      refine R_aload_n hB (j := 0) dX8_byAllNow_7 rfl rfl ?_
      refine R_geti hB fl_X8_117 dX8_byAllNow_8 rfl ?_
      refine R_icmp_ge hB 80 (by omega) (by rw [n7]; omega) dX8_byAllNow_11 rfl (fun h11 => ?_) (fun h11 => ?_)
      · rw [n7] at h11
        refine R_iconst hB dX8_byAllNow_80 ?_
        exact R_iret hB hE rfl dX8_byAllNow_81 (by
          refine ⟨f1, f2.1, ?_⟩
          unfold cBA
          first
          | (rw [if_pos (by omega)])
          | (by_cases c0 : σ 0 2 = 0
             · rw [if_pos c0]
             · rw [if_neg c0, nth_none0 (fun j hj => hno j (by omega))]))
      · rw [n7] at h11
        refine R_aload_n hB (j := 0) dX8_byAllNow_14 rfl rfl ?_
        refine R_geti hB fl_X8_114 dX8_byAllNow_15 rfl ?_
        refine R_if_le hB 80 (by rw [n2]; omega) dX8_byAllNow_18 rfl (fun h18 => ?_) (fun h18 => ?_)
        · rw [n2] at h18
          refine R_iconst hB dX8_byAllNow_80 ?_
          exact R_iret hB hE rfl dX8_byAllNow_81 (by
            refine ⟨f1, f2.1, ?_⟩
            unfold cBA
            first
            | (rw [if_pos (by omega)])
            | (by_cases c0 : σ 0 2 = 0
               · rw [if_pos c0]
               · rw [if_neg c0, nth_none0 (fun j hj => hno j (by omega))]))
        · rw [n2] at h18
          refine R_iconst hB dX8_byAllNow_21 ?_
          refine R_istore_n hB (L' := [_, _, _]) dX8_byAllNow_22 rfl (Nat.le_of_ble_eq_true rfl) rfl ?_
          refine R_iconst hB dX8_byAllNow_23 ?_
          refine R_istore_n hB (L' := [_, _, _, _]) dX8_byAllNow_24 rfl (Nat.le_of_ble_eq_true rfl) rfl ?_
          have lp_25 : ∀ (n_25 : Nat) (v k : Int), ((σ 0 2 - k).toNat) < n_25 → (0 ≤ k ∧ k ≤ σ 0 2) → (v = if allS σ k.toNat d.toNat = true then 1 else 0) → Run Θ Γ 25 [(0, .ref (Th.r Θ 1)), (1, .int (I d)), (2, .int (I v)), (3, .int (I k))] [] σ1 := by
            intro n_25
            induction n_25 with
            | zero => intro v k h_m; exact absurd h_m (Nat.not_lt_zero _)
            | succ n_25 ih_25 =>
              intro v k h_m hk hv
              refine R_iload_n hB (j := 3) dX8_byAllNow_25 rfl rfl ?_
              refine R_aload_n hB (j := 0) dX8_byAllNow_26 rfl rfl ?_
              refine R_geti hB fl_X8_114 dX8_byAllNow_27 rfl ?_
              refine R_icmp_ge hB 68 (by omega) (by rw [n2]; omega) dX8_byAllNow_30 rfl (fun h30 => ?_) (fun h30 => ?_)
              · rw [n2] at h30
                refine R_iload_n hB (j := 2) dX8_byAllNow_68 rfl rfl ?_
                refine R_if_eq hB 74 (by rw [hv]; split <;> omega) dX8_byAllNow_69 rfl (fun h69 => ?_) (fun h69 => ?_)
                · have hk2 : k = σ 0 2 := by omega
                  rw [hk2] at hv
                  have hf : allS σ (σ 0 2).toNat d.toNat = false := by
                    cases c : allS σ (σ 0 2).toNat d.toNat with
                    | false => rfl
                    | true => rw [if_pos c] at hv; omega
                  refine R_iinc hB (j := 1) (L' := [_, _, _, _]) dX8_byAllNow_74 rfl (Nat.le_of_ble_eq_true rfl) rfl ?_
                  refine R_goto hB 6 dX8_byAllNow_77 rfl ?_
                  exact R_sub [1, 0] rfl (ih_6 _ (by omega) (by omega) (fun j hj => by
                    by_cases c : j = d.toNat
                    · rw [c]; exact hf
                    · exact hno j (by omega)))
                · have hk2 : k = σ 0 2 := by omega
                  rw [hk2] at hv
                  have hf : allS σ (σ 0 2).toNat d.toNat = true := by
                    cases c : allS σ (σ 0 2).toNat d.toNat with
                    | true => rfl
                    | false => rw [c] at hv; exact absurd hv h69
                  refine R_iload_n hB (j := 1) dX8_byAllNow_72 rfl rfl ?_
                  exact R_iret hB hE rfl dX8_byAllNow_73 (by
                    refine ⟨f1, f2.1, ?_⟩
                    unfold cBA
                    rw [if_neg (by omega), nth_0 (k := d.toNat) (by omega) (fun j hj => hno j (by omega)) hf]; omega)
              · rw [n2] at h30
                have qq := qf k d hk.1 h30 hd.1 h11
                have hbd := ftL_bd (σ (8 + k.toNat)) (σ 33) (σ 34) (σ 35) d (evs (σ 33) (σ 2 4).toNat 50) (σ (8 + k.toNat) 1)
                have hbd2 : cFT σ k.toNat d = ftL (σ (8 + k.toNat)) (σ 33) (σ 34) (σ 35) d (evs (σ 33) (σ 2 4).toNat 50) (σ (8 + k.toNat) 1) := rfl
                have ed : ((d.toNat : Nat) : Int) = d := by omega
                have hstep : allS σ (k + 1).toNat d.toNat = (allS σ k.toNat d.toNat && decide (cFT σ k.toNat d = 1 ∨ cFT σ k.toNat d = 2)) := by
                  rw [show (k + 1).toNat = k.toNat + 1 by omega]
                  simp only [allS, ed]
                refine R_iload_n hB (j := 2) dX8_byAllNow_33 rfl rfl ?_
                have jn_61 : ∀ (x : Int), (x = if allS σ (k + 1).toNat d.toNat = true then 1 else 0) → Run Θ Γ 61 [(0, .ref (Th.r Θ 1)), (1, .int (I d)), (2, .int (I v)), (3, .int (I k))] [.int (I x)] σ1 := by
                  intro x hx
                  refine R_istore_n hB (L' := [_, _, _, _]) dX8_byAllNow_61 rfl (Nat.le_of_ble_eq_true rfl) rfl ?_
                  refine R_iinc hB (j := 3) (L' := [_, _, _, _]) dX8_byAllNow_62 rfl (Nat.le_of_ble_eq_true rfl) rfl ?_
                  refine R_goto hB 25 dX8_byAllNow_65 rfl ?_
                  exact R_sub [2, 3, 1, 0] rfl (ih_25 _ _ (by omega) (by omega) hx)
                refine R_if_eq hB 60 (by rw [hv]; split <;> omega) dX8_byAllNow_34 rfl (fun h34 => ?_) (fun h34 => ?_)
                · have ha : allS σ k.toNat d.toNat = false := by
                    cases c : allS σ k.toNat d.toNat with
                    | false => rfl
                    | true => rw [if_pos c] at hv; omega
                  refine R_iconst hB dX8_byAllNow_60 ?_
                  exact R_sub [0, 1, 2, 3] rfl (jn_61 _ (by
                    rw [hstep, ha]
                    first
                    | (rw [Bool.false_and, if_neg (by decide)])
                    | (rw [Bool.true_and, decide_eq_false (by split at h50 <;> omega), if_neg (by decide)])))
                · have ha : allS σ k.toNat d.toNat = true := by
                    cases c : allS σ k.toNat d.toNat with
                    | true => rfl
                    | false => rw [c] at hv; exact absurd hv h34
                  refine R_aload_n hB (j := 0) dX8_byAllNow_37 rfl rfl ?_
                  refine R_getr hB (64) fl_X8_44 dX8_byAllNow_38 rfl rfl ?_
                  refine R_bipush hB dX8_byAllNow_41 rfl ?_
                  refine R_iload_n hB (j := 1) dX8_byAllNow_43 rfl rfl ?_
                  refine R_imul hB dX8_byAllNow_44 ?_
                  refine R_iload_n hB (j := 3) dX8_byAllNow_45 rfl rfl ?_
                  refine R_iadd hB dX8_byAllNow_46 ?_
                  refine R_iald hB rfl (by omega) dX8_byAllNow_47 ?_
                  refine R_iconst hB dX8_byAllNow_48 ?_
                  refine R_iconst hB dX8_byAllNow_49 ?_
                  refine P_cS1 hB (s_in _ _ _ (by rw [qq]; omega) (by omega) (by omega)) ms_X8_98 (by decide) dX8_byAllNow_50 rfl rfl (Nat.le_of_ble_eq_true rfl) (fun z50 h50 => ?_)
                  rw [qq] at h50
                  refine R_if_eq hB 60 (by rw [h50]; split <;> omega) dX8_byAllNow_53 rfl (fun h53 => ?_) (fun h53 => ?_)
                  · refine R_iconst hB dX8_byAllNow_60 ?_
                    exact R_sub [0, 1, 2, 3] rfl (jn_61 _ (by
                      rw [hstep, ha]
                      first
                      | (rw [Bool.false_and, if_neg (by decide)])
                      | (rw [Bool.true_and, decide_eq_false (by split at h50 <;> omega), if_neg (by decide)])))
                  · refine R_iconst hB dX8_byAllNow_56 ?_
                    refine R_goto hB 61 dX8_byAllNow_57 rfl ?_
                    exact R_sub [0, 1, 2, 3] rfl (jn_61 _ (by rw [hstep, ha, Bool.true_and, decide_eq_true (by split at h50 <;> omega), if_pos rfl]))
          exact R_sub [2, 3, 1, 0] rfl (lp_25 _ _ _ (Nat.lt_succ_self _) (by omega) rfl)
  exact R_sub [1, 0] rfl (lp_6 _ _ (Nat.lt_succ_self _) (by omega) (fun j hj => by omega))

theorem s_mbyAll {Θ : Th} {σ : Mem} (h : InvC σ) (hR : Rel σ) : Spc Θ M_X8_byAll 1 [.ref (Th.r Θ 1)] σ (fun r σ' => FrM σ σ' ∧ RR σ' ∧ r = cBA σ) := by
  refine Spc_of (by decide +kernel) (Nat.le_of_ble_eq_true rfl) (fun Γ hB hE => ?_)
  show Run Θ Γ 0 [(0, .ref (Th.r Θ 1))] [] σ
  refine R_aload_n hB (j := 0) dX8_byAll_0 rfl rfl ?_
  refine R_cV1 hB (s_byAllNow h hR) mv_X8_208 rfl rfl (by decide) dX8_byAll_1 rfl rfl (Nat.le_of_ble_eq_true rfl) (fun z1 σ1 h1 => ?_)
  exact R_iret hB hE rfl dX8_byAll_4 (h1)
