theorem s_deepIn {Θ : Th} {σ : Mem} (hour : Int) (hh : 0 ≤ hour ∧ hour < 50) (o : Nat) (ho : clsOf o = 4) (hz : BedOK (σ o)) (hw : RowOK (σ 33) (σ 34) (σ 35) (σ 36) (σ 2 4)) : Spc Θ M_X2_deepIn 1 [.ref (Th.r Θ 5), .int (I hour), .ref (Th.r Θ o), .ref (Th.r Θ 2)] σ (fun r σ' => Same [5, 44, 45, 46, 47] σ σ' ∧ r = deepOf (σ o 2) (σ o 3) (hour - lnL (σ o) (σ 33) (σ 34) (σ 35) (evs (σ 33) (σ 2 4).toNat hour.toNat) (σ o 1))) := by
  refine Spc_of (by decide +kernel) (Nat.le_of_ble_eq_true rfl) (fun Γ hB hE => ?_)
  show Run Θ Γ 0 [(0, .ref (Th.r Θ 5)), (1, .int (I hour)), (2, .ref (Th.r Θ o)), (3, .ref (Th.r Θ 2))] [] σ
  have ho7 := cls4 ho
  have hn := hw.1
  have hz1 := hz.2.1
  refine R_aload_n hB (j := 0) dX2_deepIn_0 rfl rfl ?_
  refine R_aload_n hB (j := 2) dX2_deepIn_1 rfl rfl ?_
  refine R_cV0 hB (s_lieDown o ho hz.2.1) mv_X2_24 rfl rfl (by decide) dX2_deepIn_2 rfl rfl (Nat.le_of_ble_eq_true rfl) (fun σ0 h2 => ?_)
  refine R_iconst hB dX2_deepIn_5 ?_
  refine R_istore hB (L' := [_, _, _, _, _]) dX2_deepIn_6 (Nat.le_of_ble_eq_true rfl) rfl ?_
  have lp_8 : ∀ (n_8 : Nat) (k : Int) (σ1 : Mem), ((σ 2 4 - k).toNat) < n_8 → (0 ≤ k ∧ k ≤ σ 2 4) → (NightI σ σ1 (σ o) (σ 33) (σ 34) (σ 35) (ordL (σ 36) k.toNat)) → (∀ d ∈ ordL (σ 36) k.toNat, σ 33 d < hour) → Run Θ Γ 8 [(0, .ref (Th.r Θ 5)), (1, .int (I hour)), (2, .ref (Th.r Θ o)), (3, .ref (Th.r Θ 2)), (4, .int (I k))] [] σ1 := by
    intro n_8
    induction n_8 with
    | zero => intro k σ1 h_m; exact absurd h_m (Nat.not_lt_zero _)
    | succ n_8 ih_8 =>
      intro k σ1 h_m hk hI hlt
      have qo : σ1 o = σ o := hI.1 o (by simp; omega)
      have q2 : σ1 2 = σ 2 := hI.1 2 (by decide)
      have q33 : σ1 33 = σ 33 := hI.1 33 (by decide)
      have q34 : σ1 34 = σ 34 := hI.1 34 (by decide)
      have q35 : σ1 35 = σ 35 := hI.1 35 (by decide)
      have q36 : σ1 36 = σ 36 := hI.1 36 (by decide)
      have q25 : σ1 25 = σ 25 := hI.1 25 (by decide)
      have jn_52 : ∀ (k : Int) (σ1 : Mem), (NightI σ σ1 (σ o) (σ 33) (σ 34) (σ 35) (evs (σ 33) (σ 2 4).toNat hour.toNat)) → Run Θ Γ 52 [(0, .ref (Th.r Θ 5)), (1, .int (I hour)), (2, .ref (Th.r Θ o)), (3, .ref (Th.r Θ 2)), (4, .int (I k))] [] σ1 := by
        intro k σ1 hI
        have qo : σ1 o = σ o := hI.1 o (by simp; omega)
        have hl := hI.2.1
        have hl2 := lnL_in (z := σ o) (hr := σ 33) (ho := σ 34) (so := σ 35) (n := 0) (es := evs (σ 33) (σ 2 4).toNat hour.toNat) (fun d hd => by have := (evs_mem.mp hd).2; omega) (l := σ o 1) (by omega)
        refine R_aload_n hB (j := 2) dX2_deepIn_52 rfl rfl ?_
        refine R_iload_n hB (j := 1) dX2_deepIn_53 rfl rfl ?_
        refine R_aload_n hB (j := 0) dX2_deepIn_54 rfl rfl ?_
        refine R_geti hB fl_X2_60 dX2_deepIn_55 rfl ?_
        refine R_isub hB dX2_deepIn_58 ?_
        refine P_cV1 hB (s_deepAfter o ho _ (by rw [hl]; omega) (by rw [qo]; exact hz.2.2.1) (by rw [qo]; exact hz.2.2.2)) mv_X2_63 ho rfl (by decide) dX2_deepIn_59 rfl rfl (Nat.le_of_ble_eq_true rfl) (fun z59 h59 => ?_)
        exact R_iret hB hE rfl dX2_deepIn_62 (⟨hI.1, by rw [h59, qo, hl]⟩)
      refine R_iload hB (j := 4) dX2_deepIn_8 rfl ?_
      refine R_aload_n hB (j := 3) dX2_deepIn_10 rfl rfl ?_
      refine R_geti hB fl_X2_28 dX2_deepIn_11 rfl ?_
      refine R_icmp_ge hB 52 (by omega) (by rw [q2]; omega) dX2_deepIn_14 rfl (fun h14 => ?_) (fun h14 => ?_)
      · rw [q2] at h14
        have hJ : NightI σ σ1 (σ o) (σ 33) (σ 34) (σ 35) (evs (σ 33) (σ 2 4).toNat hour.toNat) := by
          rw [← pre_evs hw (k := k) (h := hour.toNat) hk (by omega) (fun d hd => by have := hlt d hd; omega) (by first | (left; omega) | (right; omega))]
          exact hI
        exact R_sub [0, 1, 2, 3, 4] rfl (jn_52 _ _ hJ)
      · rw [q2] at h14
        have ho1 := row_ord hw (k := k) (by omega)
        refine R_aload_n hB (j := 3) dX2_deepIn_17 rfl rfl ?_
        refine R_getr hB (33) fl_X2_44 dX2_deepIn_18 rfl rfl ?_
        refine R_aload_n hB (j := 3) dX2_deepIn_21 rfl rfl ?_
        refine R_getr hB (36) fl_X2_34 dX2_deepIn_22 rfl rfl ?_
        refine R_iload hB (j := 4) dX2_deepIn_25 rfl ?_
        refine R_iald hB rfl (by omega) dX2_deepIn_27 ?_
        refine R_iald hB rfl (by rw [q36]; omega) dX2_deepIn_28 ?_
        refine R_iload_n hB (j := 1) dX2_deepIn_29 rfl rfl ?_
        have hdd := hw.2.1 (σ 36 k) ho1.1.1 (by omega)
        refine R_icmp_ge hB 52 (by rw [q36, q33]; omega) (by omega) dX2_deepIn_30 rfl (fun h30 => ?_) (fun h30 => ?_)
        · rw [q36, q33] at h30
          have hJ : NightI σ σ1 (σ o) (σ 33) (σ 34) (σ 35) (evs (σ 33) (σ 2 4).toNat hour.toNat) := by
            rw [← pre_evs hw (k := k) (h := hour.toNat) hk (by omega) (fun d hd => by have := hlt d hd; omega) (by first | (left; omega) | (right; omega))]
            exact hI
          exact R_sub [0, 1, 2, 3, 4] rfl (jn_52 _ _ hJ)
        · rw [q36, q33] at h30
          refine R_aload_n hB (j := 0) dX2_deepIn_33 rfl rfl ?_
          refine R_aload_n hB (j := 2) dX2_deepIn_34 rfl rfl ?_
          refine R_aload_n hB (j := 3) dX2_deepIn_35 rfl rfl ?_
          refine R_aload_n hB (j := 3) dX2_deepIn_36 rfl rfl ?_
          refine R_getr hB (36) fl_X2_34 dX2_deepIn_37 rfl rfl ?_
          refine R_iload hB (j := 4) dX2_deepIn_40 rfl ?_
          refine R_iald hB rfl (by omega) dX2_deepIn_42 ?_
          have hbd := hI.bd hz (row_hr hw (by omega))
          rw [ordL_len] at hbd
          refine R_cV0 hB (s_meet_2 o ho _ (by rw [q36]; omega) (by rw [qo]; exact hz) (by rw [q36, q33, q34, q35]; exact hdd) hbd.1 (by omega) (by omega) (fun s a b => by have := hbd.2.2.2.1 s a b; omega) hbd.2.2.2.2) mv_X2_37 rfl rfl (by decide) dX2_deepIn_43 rfl rfl (Nat.le_of_ble_eq_true rfl) (fun σ2 h43 => ?_)
          rw [qo, q33, q34, q35, q36] at h43
          have hN := NightI_s hI h43 ho1.2 (by omega)
          rw [← ordL_k (σ 36) (k := k) (by omega)] at hN
          refine R_iinc hB (j := 4) (L' := [_, _, _, _, _]) dX2_deepIn_46 rfl (Nat.le_of_ble_eq_true rfl) rfl ?_
          refine R_goto hB 8 dX2_deepIn_49 rfl ?_
          exact R_sub [1, 2, 3, 4, 0] rfl (ih_8 _ _ (by omega) (by omega) hN (fun d hd => by
            rw [ordL_k (σ 36) (k := k) (by omega)] at hd
            rcases List.mem_append.mp hd with q | q
            · exact hlt d q
            · have : d = σ 36 k := by simpa using q
              rw [this]; omega))
  exact R_sub [1, 2, 3, 4, 0] rfl (lp_8 _ _ _ (Nat.lt_succ_self _) (by omega) (NightI_0 h2) (fun d hd => by simp [ordL] at hd))

theorem s_hoursFor {Θ : Th} {σ : Mem} (house sound : Int) (hho : 0 ≤ house ∧ house ≤ 9) (hso : 0 ≤ sound ∧ sound < 4) (o : Nat) (ho : clsOf o = 4) (hz : BedOK (σ o)) (hw : RowOK (σ 33) (σ 34) (σ 35) (σ 36) (σ 2 4)) (hr : LawOK (σ 25)) : Spc Θ M_X2_hoursFor 2 [.ref (Th.r Θ 5), .ref (Th.r Θ o), .ref (Th.r Θ 2), .int (I house), .int (I sound), .ref (Th.r Θ 25)] σ (fun r σ' => Same [5, 44, 45, 46, 47] σ σ' ∧ r = bsum (qtB (σ o) (σ 33) (σ 34) (σ 35) (σ 2 4).toNat (loudOf (σ o 0) house sound) (σ 25 0) (σ 25 1)) 50) := by
  refine Spc_of (by decide +kernel) (Nat.le_of_ble_eq_true rfl) (fun Γ hB hE => ?_)
  show Run Θ Γ 0 [(0, .ref (Th.r Θ 5)), (1, .ref (Th.r Θ o)), (2, .ref (Th.r Θ 2)), (3, .int (I house)), (4, .int (I sound)), (5, .ref (Th.r Θ 25))] [] σ
  have ho7 := cls4 ho
  have hn := hw.1
  have hz0 := hz.1
  have hz1 := hz.2.1
  refine R_aload_n hB (j := 0) dX2_hoursFor_0 rfl rfl ?_
  refine R_aload_n hB (j := 1) dX2_hoursFor_1 rfl rfl ?_
  refine R_cV0 hB (s_lieDown o ho hz.2.1) mv_X2_24 rfl rfl (by decide) dX2_hoursFor_2 rfl rfl (Nat.le_of_ble_eq_true rfl) (fun σ0 h2 => ?_)
  have qo0 : σ0 o = σ o := h2.1 o (by simp; omega)
  refine R_aload_n hB (j := 1) dX2_hoursFor_5 rfl rfl ?_
  refine R_geti hB fl_X2_51 dX2_hoursFor_6 ho ?_
  refine R_iload_n hB (j := 3) dX2_hoursFor_9 rfl rfl ?_
  refine R_iload hB (j := 4) dX2_hoursFor_10 rfl ?_
  refine P_cS1 hB (s_loudAt _ _ _ (by rw [qo0]; exact hz0) hho hso) ms_X2_56 (by decide) dX2_hoursFor_12 rfl rfl (Nat.le_of_ble_eq_true rfl) (fun z12 h12 => ?_)
  rw [qo0] at h12
  have hlo := loudOf_in (ho := σ o 0) (fr := house) (so := sound) hso
  rw [← h12] at hlo
  refine R_istore hB (L' := [_, _, _, _, _, _, _]) dX2_hoursFor_15 (Nat.le_of_ble_eq_true rfl) rfl ?_
  refine R_lconst hB (z := 0) dX2_hoursFor_17 rfl ?_
  refine R_lstore hB (L' := [_, _, _, _, _, _, _, _]) dX2_hoursFor_18 (Nat.le_of_ble_eq_true rfl) rfl ?_
  refine R_iconst hB dX2_hoursFor_20 ?_
  refine R_istore hB (L' := [_, _, _, _, _, _, _, _, _]) dX2_hoursFor_21 (Nat.le_of_ble_eq_true rfl) rfl ?_
  refine R_iconst hB dX2_hoursFor_23 ?_
  refine R_istore hB (L' := [_, _, _, _, _, _, _, _, _, _]) dX2_hoursFor_24 (Nat.le_of_ble_eq_true rfl) rfl ?_
  have lp_26 : ∀ (n_26 : Nat) (k h hs : Int) (σ1 : Mem), ((50 - h).toNat) < n_26 → (0 ≤ h ∧ h ≤ 50) → (0 ≤ k ∧ k ≤ σ 2 4) → (NightI σ σ1 (σ o) (σ 33) (σ 34) (σ 35) (ordL (σ 36) k.toNat)) → (ordL (σ 36) k.toNat = evs (σ 33) (σ 2 4).toNat h.toNat) → (hs = bsum (qtB (σ o) (σ 33) (σ 34) (σ 35) (σ 2 4).toNat (loudOf (σ o 0) house sound) (σ 25 0) (σ 25 1)) h.toNat) → Run Θ Γ 26 [(0, .ref (Th.r Θ 5)), (1, .ref (Th.r Θ o)), (2, .ref (Th.r Θ 2)), (3, .int (I house)), (4, .int (I sound)), (5, .ref (Th.r Θ 25)), (6, .int (I z12)), (7, .long (Jl hs)), (9, .int (I k)), (10, .int (I h))] [] σ1 := by
    intro n_26
    induction n_26 with
    | zero => intro k h hs σ1 h_m; exact absurd h_m (Nat.not_lt_zero _)
    | succ n_26 ih_26 =>
      intro k h hs σ1 h_m hh hk hI hev hhs
      refine R_iload hB (j := 9) dX2_hoursFor_26 rfl ?_
      refine R_bipush hB dX2_hoursFor_28 rfl ?_
      refine R_icmp_ge hB 126 (by omega) (by omega) dX2_hoursFor_30 rfl (fun h30 => ?_) (fun h30 => ?_)
      · have hh50 : h = 50 := by omega
        subst hh50
        refine R_lload hB (j := 7) dX2_hoursFor_126 rfl ?_
        exact R_lret hB hE rfl dX2_hoursFor_128 (⟨hI.1, hhs⟩)
      · have lp_33 : ∀ (n_33 : Nat) (k2 : Int) (σ2 : Mem), ((σ 2 4 - k2).toNat) < n_33 → (0 ≤ k2 ∧ k2 ≤ σ 2 4) → (NightI σ σ2 (σ o) (σ 33) (σ 34) (σ 35) (ordL (σ 36) k2.toNat)) → (∀ d ∈ ordL (σ 36) k2.toNat, σ 33 d < h + 1) → (∀ d ∈ evs (σ 33) (σ 2 4).toNat h.toNat, d ∈ ordL (σ 36) k2.toNat) → Run Θ Γ 33 [(0, .ref (Th.r Θ 5)), (1, .ref (Th.r Θ o)), (2, .ref (Th.r Θ 2)), (3, .int (I house)), (4, .int (I sound)), (5, .ref (Th.r Θ 25)), (6, .int (I z12)), (7, .long (Jl hs)), (9, .int (I k2)), (10, .int (I h))] [] σ2 := by
          intro n_33
          induction n_33 with
          | zero => intro k2 σ2 h_m; exact absurd h_m (Nat.not_lt_zero _)
          | succ n_33 ih_33 =>
            intro k2 σ2 h_m hk2 hI hle hal
            have qo : σ2 o = σ o := hI.1 o (by simp; omega)
            have q2 : σ2 2 = σ 2 := hI.1 2 (by decide)
            have q33 : σ2 33 = σ 33 := hI.1 33 (by decide)
            have q34 : σ2 34 = σ 34 := hI.1 34 (by decide)
            have q35 : σ2 35 = σ 35 := hI.1 35 (by decide)
            have q36 : σ2 36 = σ 36 := hI.1 36 (by decide)
            have q25 : σ2 25 = σ 25 := hI.1 25 (by decide)
            have jn_78 : ∀ (k4 : Int) (σ4 : Mem), (0 ≤ k4 ∧ k4 ≤ σ 2 4) → (ordL (σ 36) k4.toNat = evs (σ 33) (σ 2 4).toNat (h.toNat + 1)) → (NightI σ σ4 (σ o) (σ 33) (σ 34) (σ 35) (evs (σ 33) (σ 2 4).toNat (h.toNat + 1))) → Run Θ Γ 78 [(0, .ref (Th.r Θ 5)), (1, .ref (Th.r Θ o)), (2, .ref (Th.r Θ 2)), (3, .int (I house)), (4, .int (I sound)), (5, .ref (Th.r Θ 25)), (6, .int (I z12)), (7, .long (Jl hs)), (9, .int (I k4)), (10, .int (I h))] [] σ4 := by
              intro k4 σ4 hk4 hev4 hJ
              have qo4 : σ4 o = σ o := hJ.1 o (by simp; omega)
              have q254 : σ4 25 = σ 25 := hJ.1 25 (by decide)
              have hl := hJ.2.1
              have hl2 := lnL_in (z := σ o) (hr := σ 33) (ho := σ 34) (so := σ 35) (n := 0) (es := evs (σ 33) (σ 2 4).toNat (h.toNat + 1)) (fun d hd => by have := (evs_mem.mp hd).2; omega) (l := σ o 1) (by omega)
              refine R_aload_n hB (j := 1) dX2_hoursFor_78 rfl rfl ?_
              refine R_iload hB (j := 9) dX2_hoursFor_79 rfl ?_
              refine R_aload_n hB (j := 0) dX2_hoursFor_81 rfl rfl ?_
              refine R_geti hB fl_X2_60 dX2_hoursFor_82 rfl ?_
              refine R_isub hB dX2_hoursFor_85 ?_
              refine P_cV1 hB (s_deepAfter o ho _ (by rw [hl]; omega) (by rw [qo4]; exact hz.2.2.1) (by rw [qo4]; exact hz.2.2.2)) mv_X2_63 ho rfl (by decide) dX2_hoursFor_86 rfl rfl (Nat.le_of_ble_eq_true rfl) (fun z86 h86 => ?_)
              rw [qo4, hl] at h86
              have hde := deepOf_in (su := σ o 2) (kd := σ o 3) (h := h - lnL (σ o) (σ 33) (σ 34) (σ 35) (evs (σ 33) (σ 2 4).toNat (h.toNat + 1)) (σ o 1)) hz.2.2.1
              rw [← h86] at hde
              refine R_istore hB (L' := [_, _, _, _, _, _, _, _, _, _, _]) dX2_hoursFor_89 (Nat.le_of_ble_eq_true rfl) rfl ?_
              refine R_aload_n hB (j := 1) dX2_hoursFor_91 rfl rfl ?_
              refine R_iload hB (j := 7) dX2_hoursFor_92 rfl ?_
              refine R_iload hB (j := 0) dX2_hoursFor_94 rfl ?_
              refine P_cS1 hB (s_fateBy _ _ (by omega) (by omega)) ms_X2_67 (by decide) dX2_hoursFor_96 rfl rfl (Nat.le_of_ble_eq_true rfl) (fun z96 h96 => ?_)
              have hfa := fateOf_in z12 z86
              rw [← h96] at hfa
              refine R_iload hB (j := 0) dX2_hoursFor_99 rfl ?_
              refine R_iload hB (j := 10) dX2_hoursFor_101 rfl ?_
              refine R_aload hB (j := 6) dX2_hoursFor_103 rfl ?_
              refine P_cV1 hB (s_testifies _ _ _ (by omega) (by omega) (by omega) (by rw [q254]; exact hr) (by exact ⟨hJ.2.2.2.2.2.1.1, hJ.2.2.2.2.2.1.2.1⟩)) mv_X2_47 rfl rfl (by decide) dX2_hoursFor_105 rfl rfl (Nat.le_of_ble_eq_true rfl) (fun z105 h105 => ?_)
              rw [q254] at h105
              have hL := late_iff hJ.2.2.2.2.2.1 (hour := h) (si := σ 25 1) (by omega) hr.2.1.1 rfl
              have hT : z105 = if (qtB (σ o) (σ 33) (σ 34) (σ 35) (σ 2 4).toNat (loudOf (σ o 0) house sound) (σ 25 0) (σ 25 1)) h.toNat = true then 1 else 0 := by
                rw [h105]
                simp only [hL, qtB, show ((h.toNat : Nat) : Int) = h by omega]
                rw [← h12, ← h86, ← h96]
                simp [and_assoc]
              refine R_if_eq hB 120 (by rw [hT]; split <;> omega) dX2_hoursFor_108 rfl (fun h108 => ?_) (fun h108 => ?_)
              · refine R_iinc hB (j := 10) (L' := [_, _, _, _, _, _, _, _, _, _, _]) dX2_hoursFor_120 rfl (Nat.le_of_ble_eq_true rfl) rfl ?_
                refine R_goto hB 26 dX2_hoursFor_123 rfl ?_
                exact R_sub [2, 3, 4, 5, 6, 7, 8, 9, 10, 0] rfl (ih_26 _ _ _ _ (by omega) (by omega) hk4 (by rw [hev4]; exact hJ) (by rw [hev4, show (h + 1).toNat = h.toNat + 1 by omega]) (by
                  rw [show (h + 1).toNat = h.toNat + 1 by omega]
                  simp only [bsum]
                  rw [← hhs]
                  first
                  | (rw [if_neg (fun q => by rw [if_pos q] at hT; omega)]; omega)
                  | (rw [if_pos (by by_cases q : (qtB (σ o) (σ 33) (σ 34) (σ 35) (σ 2 4).toNat (loudOf (σ o 0) house sound) (σ 25 0) (σ 25 1)) h.toNat = true; exact q; exact absurd (by rw [if_neg q] at hT; exact hT) h108)])))
              · refine R_lload hB (j := 8) dX2_hoursFor_111 rfl ?_
                refine R_lconst hB (z := 1) dX2_hoursFor_113 rfl ?_
                refine R_iload hB (j := 10) dX2_hoursFor_114 rfl ?_
                have hbs := bsum_in (qtB (σ o) (σ 33) (σ 34) (σ 35) (σ 2 4).toNat (loudOf (σ o 0) house sound) (σ 25 0) (σ 25 1)) h.toNat
                refine R_lshl hB (2 ^ (h).toNat) (j_shl1z (by omega)) dX2_hoursFor_116 ?_
                refine R_lor hB ((hs) + 2 ^ (h).toNat) (j_oradd (by rw [hhs]; exact hbs) (by omega)) dX2_hoursFor_117 ?_
                refine R_lstore hB (L' := [_, _, _, _, _, _, _, _, _, _, _]) dX2_hoursFor_118 (Nat.le_of_ble_eq_true rfl) rfl ?_
                refine R_iinc hB (j := 10) (L' := [_, _, _, _, _, _, _, _, _, _, _]) dX2_hoursFor_120 rfl (Nat.le_of_ble_eq_true rfl) rfl ?_
                refine R_goto hB 26 dX2_hoursFor_123 rfl ?_
                exact R_sub [3, 4, 5, 6, 7, 8, 9, 1, 10, 0] rfl (ih_26 _ _ _ _ (by omega) (by omega) hk4 (by rw [hev4]; exact hJ) (by rw [hev4, show (h + 1).toNat = h.toNat + 1 by omega]) (by
                  rw [show (h + 1).toNat = h.toNat + 1 by omega]
                  simp only [bsum]
                  rw [← hhs]
                  first
                  | (rw [if_neg (fun q => by rw [if_pos q] at hT; omega)]; omega)
                  | (rw [if_pos (by by_cases q : (qtB (σ o) (σ 33) (σ 34) (σ 35) (σ 2 4).toNat (loudOf (σ o 0) house sound) (σ 25 0) (σ 25 1)) h.toNat = true; exact q; exact absurd (by rw [if_neg q] at hT; exact hT) h108)])))
            refine R_iload hB (j := 8) dX2_hoursFor_33 rfl ?_
            refine R_aload_n hB (j := 2) dX2_hoursFor_35 rfl rfl ?_
            refine R_geti hB fl_X2_28 dX2_hoursFor_36 rfl ?_
            refine R_icmp_ge hB 78 (by omega) (by rw [q2]; omega) dX2_hoursFor_39 rfl (fun h39 => ?_) (fun h39 => ?_)
            · rw [q2] at h39
              have hE := pre_evs hw (k := k2) (h := h.toNat + 1) hk2 (by omega) (fun d hd => by have := hle d hd; omega) (Or.inl (by omega))
              exact R_sub [0, 1, 2, 3, 4, 5, 6, 7, 8, 9] rfl (jn_78 _ _ hk2 hE (by rw [← hE]; exact hI))
            · rw [q2] at h39
              have ho1 := row_ord hw (k := k2) (by omega)
              refine R_aload_n hB (j := 2) dX2_hoursFor_42 rfl rfl ?_
              refine R_getr hB (33) fl_X2_44 dX2_hoursFor_43 rfl rfl ?_
              refine R_aload_n hB (j := 2) dX2_hoursFor_46 rfl rfl ?_
              refine R_getr hB (36) fl_X2_34 dX2_hoursFor_47 rfl rfl ?_
              refine R_iload hB (j := 8) dX2_hoursFor_50 rfl ?_
              refine R_iald hB rfl (by omega) dX2_hoursFor_52 ?_
              refine R_iald hB rfl (by rw [q36]; omega) dX2_hoursFor_53 ?_
              refine R_iload hB (j := 9) dX2_hoursFor_54 rfl ?_
              have hdd := hw.2.1 (σ 36 k2) ho1.1.1 (by omega)
              refine R_icmp_ne hB 78 (by rw [q36, q33]; omega) (by omega) dX2_hoursFor_56 rfl (fun h56 => ?_) (fun h56 => ?_)
              · rw [q36, q33] at h56
                have hE := pre_evs hw (k := k2) (h := h.toNat + 1) hk2 (by omega) (fun d hd => by have := hle d hd; omega) (Or.inr (by
                  by_cases q : σ 33 (σ 36 k2) < h
                  · exact absurd (hal _ (evs_mem.mpr ⟨by omega, by omega⟩)) ho1.2
                  · omega))
                exact R_sub [0, 1, 2, 3, 4, 5, 6, 7, 8, 9] rfl (jn_78 _ _ hk2 hE (by rw [← hE]; exact hI))
              · rw [q36, q33] at h56
                refine R_aload_n hB (j := 0) dX2_hoursFor_59 rfl rfl ?_
                refine R_aload_n hB (j := 1) dX2_hoursFor_60 rfl rfl ?_
                refine R_aload_n hB (j := 2) dX2_hoursFor_61 rfl rfl ?_
                refine R_aload_n hB (j := 2) dX2_hoursFor_62 rfl rfl ?_
                refine R_getr hB (36) fl_X2_34 dX2_hoursFor_63 rfl rfl ?_
                refine R_iload hB (j := 8) dX2_hoursFor_66 rfl ?_
                refine R_iald hB rfl (by omega) dX2_hoursFor_68 ?_
                have hbd := hI.bd hz (row_hr hw (by omega))
                rw [ordL_len] at hbd
                refine R_cV0 hB (s_meet_2 o ho _ (by rw [q36]; omega) (by rw [qo]; exact hz) (by rw [q36, q33, q34, q35]; exact hdd) hbd.1 (by omega) (by omega) (fun s a b => by have := hbd.2.2.2.1 s a b; omega) hbd.2.2.2.2) mv_X2_37 rfl rfl (by decide) dX2_hoursFor_69 rfl rfl (Nat.le_of_ble_eq_true rfl) (fun σ3 h69 => ?_)
                rw [qo, q33, q34, q35, q36] at h69
                have hN := NightI_s hI h69 ho1.2 (by omega)
                rw [← ordL_k (σ 36) (k := k2) (by omega)] at hN
                refine R_iinc hB (j := 8) (L' := [_, _, _, _, _, _, _, _, _, _]) dX2_hoursFor_72 rfl (Nat.le_of_ble_eq_true rfl) rfl ?_
                refine R_goto hB 33 dX2_hoursFor_75 rfl ?_
                exact R_sub [1, 2, 3, 4, 5, 6, 7, 8, 0, 9] rfl (ih_33 _ _ (by omega) (by omega) hN (fun d hd => by
                  rw [ordL_k (σ 36) (k := k2) (by omega)] at hd
                  rcases List.mem_append.mp hd with q | q
                  · exact hle d q
                  · have : d = σ 36 k2 := by simpa using q
                    rw [this]; omega) (fun d hd => by rw [ordL_k (σ 36) (k := k2) (by omega)]; exact List.mem_append_left _ (hal d hd)))
        exact R_sub [0, 1, 2, 3, 4, 5, 6, 7, 8, 9] rfl (lp_33 _ _ _ (Nat.lt_succ_self _) hk hI (fun d hd => by rw [hev] at hd; have := (evs_mem.mp hd).2; omega) (fun d hd => by rw [hev]; exact hd))
  exact R_sub [4, 5, 6, 7, 8, 9, 3, 2, 1, 0] rfl (lp_26 _ _ _ _ _ (Nat.lt_succ_self _) (by omega) (by omega) (NightI_0 h2) rfl rfl)
