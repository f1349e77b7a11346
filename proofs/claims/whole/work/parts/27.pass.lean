theorem s_pass_2 {Θ : Th} {σ : Mem} (o : Nat) (ho : clsOf o = 4) (hz : BedOK (σ o)) (hw : RowOK (σ 33) (σ 34) (σ 35) (σ 36) (σ 2 4)) (hr : LawOK (σ 25)) : Spc Θ M_X2_pass 0 [.ref (Th.r Θ 5), .ref (Th.r Θ o), .ref (Th.r Θ 2), .ref (Th.r Θ 25)] σ (fun _ σ' => PassQ σ σ' (σ o) (σ 33) (σ 34) (σ 35) (ordL (σ 36) (σ 2 4).toNat) (σ 2 4) (σ 25)) := by
  refine Spc_of (by decide +kernel) (Nat.le_of_ble_eq_true rfl) (fun Γ hB hE => ?_)
  show Run Θ Γ 0 [(0, .ref (Th.r Θ 5)), (1, .ref (Th.r Θ o)), (2, .ref (Th.r Θ 2)), (3, .ref (Th.r Θ 25))] [] σ
  have ho7 := cls4 ho
  have hn := hw.1
  have hz1 := hz.2.1
  refine R_aload_n hB (j := 0) dX2_pass_0 rfl rfl ?_
  refine R_aload_n hB (j := 1) dX2_pass_1 rfl rfl ?_
  refine R_cV0 hB (s_lieDown o ho hz.2.1) mv_X2_24 rfl rfl (by decide) dX2_pass_2 rfl rfl (Nat.le_of_ble_eq_true rfl) (fun σ0 h2 => ?_)
  refine R_iconst hB dX2_pass_5 ?_
  refine R_istore hB (L' := [_, _, _, _, _]) dX2_pass_6 (Nat.le_of_ble_eq_true rfl) rfl ?_
  have lp_8 : ∀ (n_8 : Nat) (k : Int) (σ1 : Mem), ((σ 2 4 - k).toNat) < n_8 → (0 ≤ k ∧ k ≤ σ 2 4) → (NightI σ σ1 (σ o) (σ 33) (σ 34) (σ 35) (ordL (σ 36) k.toNat)) → Run Θ Γ 8 [(0, .ref (Th.r Θ 5)), (1, .ref (Th.r Θ o)), (2, .ref (Th.r Θ 2)), (3, .ref (Th.r Θ 25)), (4, .int (I k))] [] σ1 := by
    intro n_8
    induction n_8 with
    | zero => intro k σ1 h_m; exact absurd h_m (Nat.not_lt_zero _)
    | succ n_8 ih_8 =>
      intro k σ1 h_m hk hI
      have qo : σ1 o = σ o := hI.1 o (by simp; omega)
      have q2 : σ1 2 = σ 2 := hI.1 2 (by decide)
      have q33 : σ1 33 = σ 33 := hI.1 33 (by decide)
      have q34 : σ1 34 = σ 34 := hI.1 34 (by decide)
      have q35 : σ1 35 = σ 35 := hI.1 35 (by decide)
      have q36 : σ1 36 = σ 36 := hI.1 36 (by decide)
      have q25 : σ1 25 = σ 25 := hI.1 25 (by decide)
      refine R_iload hB (j := 4) dX2_pass_8 rfl ?_
      refine R_aload_n hB (j := 2) dX2_pass_10 rfl rfl ?_
      refine R_geti hB fl_X2_28 dX2_pass_11 rfl ?_
      refine R_icmp_ge hB 36 (by omega) (by rw [q2]; omega) dX2_pass_14 rfl (fun h14 => ?_) (fun h14 => ?_)
      · rw [q2] at h14
        have hkn : k = σ 2 4 := by omega
        subst hkn
        have hbd := hI.bd hz (row_hr hw (Nat.le_refl _))
        refine R_aload_n hB (j := 0) dX2_pass_36 rfl rfl ?_
        refine R_iconst hB dX2_pass_37 ?_
        refine N_puti hB fp_X2_41 dX2_pass_38 rfl (by omega) (fun σ3 e3 => ?_)
        refine R_iconst hB dX2_pass_41 ?_
        refine R_istore hB (L' := [_, _, _, _, _]) dX2_pass_42 (Nat.le_of_ble_eq_true rfl) rfl ?_
        have lp_44 : ∀ (n_44 : Nat) (j : Int) (σ4 : Mem), ((σ 2 4 - j).toNat) < n_44 → (0 ≤ j ∧ j ≤ σ 2 4) → (∀ i, i ≠ 5 → σ4 i = σ1 i) → (∀ x, x ≠ 6 → σ4 5 x = σ1 5 x) → (σ4 5 6 = bsum (fun d : Nat => tsL (σ o) (σ 33) (σ 34) (σ 35) (ordL (σ 36) (σ 2 4).toNat) (σ o 1) (σ 25 0) (σ 25 1) (d : Int)) j.toNat) → Run Θ Γ 44 [(0, .ref (Th.r Θ 5)), (1, .ref (Th.r Θ o)), (2, .ref (Th.r Θ 2)), (3, .ref (Th.r Θ 25)), (4, .int (I j))] [] σ4 := by
          intro n_44
          induction n_44 with
          | zero => intro j σ4 h_m; exact absurd h_m (Nat.not_lt_zero _)
          | succ n_44 ih_44 =>
            intro j σ4 h_m hj hS4 h5 h6
            refine R_iload hB (j := 4) dX2_pass_44 rfl ?_
            refine R_aload_n hB (j := 2) dX2_pass_46 rfl rfl ?_
            refine R_geti hB fl_X2_28 dX2_pass_47 rfl ?_
            refine R_icmp_ge hB 101 (by omega) (by rw [hS4 2 (by decide), q2]; omega) dX2_pass_50 rfl (fun h50 => ?_) (fun h50 => ?_)
            · rw [hS4 2 (by decide), q2] at h50
              have hjn : j = σ 2 4 := by omega
              subst hjn
              exact R_vret hB hE rfl dX2_pass_101 (by
                refine ⟨fun i hi => ?_, ?_, ?_, fun s a b => ?_, fun d a b => ?_, h6⟩
                · rw [hS4 i (fun q => hi (by simp [q])), hI.1 i hi]
                · rw [h5 4 (by decide)]; exact hI.2.2.1
                · rw [h5 5 (by decide)]; exact hI.2.2.2.1
                · rw [hS4 47 (by decide)]; exact hI.2.2.2.2.1 s a b
                · have hin := hI.2.2.2.2.2.2 d (row_in hw ⟨a, b⟩)
                  rw [hS4 44 (by decide), hS4 46 (by decide)]
                  exact ⟨hin.1, hin.2.2⟩)
            · rw [hS4 2 (by decide), q2] at h50
              have hin := hI.2.2.2.2.2.2 j (row_in hw (by omega))
              have hj3 := hw.2.1 j (by omega) (by omega)
              have f1 := ftL_bd (σ o) (σ 33) (σ 34) (σ 35) j (ordL (σ 36) (σ 2 4).toNat) (σ o 1)
              have f2 := dpL_bd hz (σ 33) (σ 34) (σ 35) j (ordL (σ 36) (σ 2 4).toNat) (σ o 1)
              refine R_aload_n hB (j := 0) dX2_pass_53 rfl rfl ?_
              refine R_aload_n hB (j := 0) dX2_pass_54 rfl rfl ?_
              refine R_getr hB (46) fl_X2_18 dX2_pass_55 rfl rfl ?_
              refine R_iload hB (j := 4) dX2_pass_58 rfl ?_
              refine R_iald hB rfl (by omega) dX2_pass_60 ?_
              refine R_aload_n hB (j := 0) dX2_pass_61 rfl rfl ?_
              refine R_getr hB (45) fl_X2_15 dX2_pass_62 rfl rfl ?_
              refine R_iload hB (j := 4) dX2_pass_65 rfl ?_
              refine R_iald hB rfl (by omega) dX2_pass_67 ?_
              refine R_aload_n hB (j := 2) dX2_pass_68 rfl rfl ?_
              refine R_getr hB (33) fl_X2_44 dX2_pass_69 rfl rfl ?_
              refine R_iload hB (j := 4) dX2_pass_72 rfl ?_
              refine R_iald hB rfl (by omega) dX2_pass_74 ?_
              refine R_aload_n hB (j := 3) dX2_pass_75 rfl rfl ?_
              refine P_cV1 hB (s_testifies _ _ _ (by rw [hS4 46 (by decide), hin.2.2]; exact f1) (by rw [hS4 45 (by decide), hin.2.1]; omega) (by rw [hS4 33 (by decide), q33]; omega) (by rw [hS4 25 (by decide), q25]; exact hr) (by rw [h5 8 (by decide)]; exact hbd.2.2.2.2)) mv_X2_47 rfl rfl (by decide) dX2_pass_76 rfl rfl (Nat.le_of_ble_eq_true rfl) (fun z76 h76 => ?_)
              rw [hS4 46 (by decide), hin.2.2, hS4 45 (by decide), hin.2.1, hS4 33 (by decide), q33, hS4 25 (by decide), q25, h5 8 (by decide)] at h76
              have hL := late_iff hI.2.2.2.2.2.1 (hour := σ 33 j) (si := σ 25 1) hj3.1 hr.2.1.1 rfl
              have hT : z76 = if (fun d : Nat => tsL (σ o) (σ 33) (σ 34) (σ 35) (ordL (σ 36) (σ 2 4).toNat) (σ o 1) (σ 25 0) (σ 25 1) (d : Int)) j.toNat = true then 1 else 0 := by
                rw [h76]
                simp only [hL, tsL, show ((j.toNat : Nat) : Int) = j by omega]
                simp [and_assoc]
              refine R_if_eq hB 95 (by rw [hT]; split <;> omega) dX2_pass_79 rfl (fun h79 => ?_) (fun h79 => ?_)
              · refine R_iinc hB (j := 4) (L' := [_, _, _, _, _]) dX2_pass_95 rfl (Nat.le_of_ble_eq_true rfl) rfl ?_
                refine R_goto hB 44 dX2_pass_98 rfl ?_
                exact R_sub [1, 2, 3, 4, 0] rfl (ih_44 _ _ (by omega) (by omega) (fun i hi => by first | exact hS4 i hi | (rw [e5, up_row hi]; exact hS4 i hi)) (fun x hx => by first | exact h5 x hx | (rw [e5, up_n (fun q => hx q.2)]; exact h5 x hx)) (by
                  rw [show (j + 1).toNat = j.toNat + 1 by omega]
                  simp only [bsum]
                  first
                  | (rw [h6, if_neg (fun q => by rw [if_pos q] at hT; omega)]; omega)
                  | (rw [e5, up_s, h6, if_pos (by by_cases q : (fun d : Nat => tsL (σ o) (σ 33) (σ 34) (σ 35) (ordL (σ 36) (σ 2 4).toNat) (σ o 1) (σ 25 0) (σ 25 1) (d : Int)) j.toNat = true; exact q; exact absurd (by rw [if_neg q] at hT; exact hT) h79)])))
              · refine R_aload_n hB (j := 0) dX2_pass_82 rfl rfl ?_
                refine R_dup hB dX2_pass_83 rfl ?_
                refine R_geti hB fl_X2_41 dX2_pass_84 rfl ?_
                refine R_iconst hB dX2_pass_87 ?_
                refine R_iload hB (j := 4) dX2_pass_88 rfl ?_
                have hbs := bsum_in (fun d : Nat => tsL (σ o) (σ 33) (σ 34) (σ 35) (ordL (σ 36) (σ 2 4).toNat) (σ o 1) (σ 25 0) (σ 25 1) (d : Int)) j.toNat
                have hp2 := p2_8 j.toNat (by omega)
                refine R_ishl hB (2 ^ (j).toNat) (i_shl1z (by omega)) dX2_pass_90 ?_
                refine R_ior hB ((σ4 5 6) + 2 ^ (j).toNat) (i_oradd (by rw [h6]; exact hbs) (by omega)) dX2_pass_91 ?_
                refine N_puti hB fp_X2_41 dX2_pass_92 rfl (by rw [h6]; omega) (fun σ5 e5 => ?_)
                refine R_iinc hB (j := 4) (L' := [_, _, _, _, _]) dX2_pass_95 rfl (Nat.le_of_ble_eq_true rfl) rfl ?_
                refine R_goto hB 44 dX2_pass_98 rfl ?_
                exact R_sub [1, 2, 3, 4, 0] rfl (ih_44 _ _ (by omega) (by omega) (fun i hi => by first | exact hS4 i hi | (rw [e5, up_row hi]; exact hS4 i hi)) (fun x hx => by first | exact h5 x hx | (rw [e5, up_n (fun q => hx q.2)]; exact h5 x hx)) (by
                  rw [show (j + 1).toNat = j.toNat + 1 by omega]
                  simp only [bsum]
                  first
                  | (rw [h6, if_neg (fun q => by rw [if_pos q] at hT; omega)]; omega)
                  | (rw [e5, up_s, h6, if_pos (by by_cases q : (fun d : Nat => tsL (σ o) (σ 33) (σ 34) (σ 35) (ordL (σ 36) (σ 2 4).toNat) (σ o 1) (σ 25 0) (σ 25 1) (d : Int)) j.toNat = true; exact q; exact absurd (by rw [if_neg q] at hT; exact hT) h79)])))
        exact R_sub [1, 2, 3, 4, 0] rfl (lp_44 _ _ _ (Nat.lt_succ_self _) (by omega) (fun i hi => by rw [e3]; exact up_row hi) (fun x hx => by rw [e3]; exact up_n (fun q => hx q.2)) (by rw [e3]; exact up_s _ _ _ _))
      · rw [q2] at h14
        refine R_aload_n hB (j := 0) dX2_pass_17 rfl rfl ?_
        refine R_aload_n hB (j := 1) dX2_pass_18 rfl rfl ?_
        refine R_aload_n hB (j := 2) dX2_pass_19 rfl rfl ?_
        refine R_aload_n hB (j := 2) dX2_pass_20 rfl rfl ?_
        refine R_getr hB (36) fl_X2_34 dX2_pass_21 rfl rfl ?_
        refine R_iload hB (j := 4) dX2_pass_24 rfl ?_
        refine R_iald hB rfl (by omega) dX2_pass_26 ?_
        have ho1 := row_ord hw (k := k) (by omega)
        have hdd := hw.2.1 (σ 36 k) ho1.1.1 (by omega)
        have hbd := hI.bd hz (row_hr hw (by omega))
        rw [ordL_len] at hbd
        refine R_cV0 hB (s_meet_2 o ho _ (by rw [q36]; omega) (by rw [qo]; exact hz) (by rw [q36, q33, q34, q35]; exact hdd) hbd.1 (by omega) (by omega) (fun s a b => by have := hbd.2.2.2.1 s a b; omega) hbd.2.2.2.2) mv_X2_37 rfl rfl (by decide) dX2_pass_27 rfl rfl (Nat.le_of_ble_eq_true rfl) (fun σ2 h27 => ?_)
        rw [qo, q33, q34, q35, q36] at h27
        have hN := NightI_s hI h27 ho1.2 (by omega)
        rw [← ordL_k (σ 36) (k := k) (by omega)] at hN
        refine R_iinc hB (j := 4) (L' := [_, _, _, _, _]) dX2_pass_30 rfl (Nat.le_of_ble_eq_true rfl) rfl ?_
        refine R_goto hB 8 dX2_pass_33 rfl ?_
        exact R_sub [1, 2, 3, 4, 0] rfl (ih_8 _ _ (by omega) (by omega) hN)
  exact R_sub [1, 2, 3, 4, 0] rfl (lp_8 _ _ _ (Nat.lt_succ_self _) (by omega) (NightI_0 h2))

theorem s_pass_3 {Θ : Th} {σ : Mem} (o : Nat) (ho : clsOf o = 4) (hz : BedOK (σ o)) (hw : RowOK (σ 37) (σ 38) (σ 39) (σ 40) (σ 3 4)) (hr : LawOK (σ 25)) : Spc Θ M_X2_pass 0 [.ref (Th.r Θ 5), .ref (Th.r Θ o), .ref (Th.r Θ 3), .ref (Th.r Θ 25)] σ (fun _ σ' => PassQ σ σ' (σ o) (σ 37) (σ 38) (σ 39) (ordL (σ 40) (σ 3 4).toNat) (σ 3 4) (σ 25)) := by
  refine Spc_of (by decide +kernel) (Nat.le_of_ble_eq_true rfl) (fun Γ hB hE => ?_)
  show Run Θ Γ 0 [(0, .ref (Th.r Θ 5)), (1, .ref (Th.r Θ o)), (2, .ref (Th.r Θ 3)), (3, .ref (Th.r Θ 25))] [] σ
  have ho7 := cls4 ho
  have hn := hw.1
  have hz1 := hz.2.1
  refine R_aload_n hB (j := 0) dX2_pass_0 rfl rfl ?_
  refine R_aload_n hB (j := 1) dX2_pass_1 rfl rfl ?_
  refine R_cV0 hB (s_lieDown o ho hz.2.1) mv_X2_24 rfl rfl (by decide) dX2_pass_2 rfl rfl (Nat.le_of_ble_eq_true rfl) (fun σ0 h2 => ?_)
  refine R_iconst hB dX2_pass_5 ?_
  refine R_istore hB (L' := [_, _, _, _, _]) dX2_pass_6 (Nat.le_of_ble_eq_true rfl) rfl ?_
  have lp_8 : ∀ (n_8 : Nat) (k : Int) (σ1 : Mem), ((σ 3 4 - k).toNat) < n_8 → (0 ≤ k ∧ k ≤ σ 3 4) → (NightI σ σ1 (σ o) (σ 37) (σ 38) (σ 39) (ordL (σ 40) k.toNat)) → Run Θ Γ 8 [(0, .ref (Th.r Θ 5)), (1, .ref (Th.r Θ o)), (2, .ref (Th.r Θ 3)), (3, .ref (Th.r Θ 25)), (4, .int (I k))] [] σ1 := by
    intro n_8
    induction n_8 with
    | zero => intro k σ1 h_m; exact absurd h_m (Nat.not_lt_zero _)
    | succ n_8 ih_8 =>
      intro k σ1 h_m hk hI
      have qo : σ1 o = σ o := hI.1 o (by simp; omega)
      have q3 : σ1 3 = σ 3 := hI.1 3 (by decide)
      have q37 : σ1 37 = σ 37 := hI.1 37 (by decide)
      have q38 : σ1 38 = σ 38 := hI.1 38 (by decide)
      have q39 : σ1 39 = σ 39 := hI.1 39 (by decide)
      have q40 : σ1 40 = σ 40 := hI.1 40 (by decide)
      have q25 : σ1 25 = σ 25 := hI.1 25 (by decide)
      refine R_iload hB (j := 4) dX2_pass_8 rfl ?_
      refine R_aload_n hB (j := 2) dX2_pass_10 rfl rfl ?_
      refine R_geti hB fl_X2_28 dX2_pass_11 rfl ?_
      refine R_icmp_ge hB 36 (by omega) (by rw [q3]; omega) dX2_pass_14 rfl (fun h14 => ?_) (fun h14 => ?_)
      · rw [q3] at h14
        have hkn : k = σ 3 4 := by omega
        subst hkn
        have hbd := hI.bd hz (row_hr hw (Nat.le_refl _))
        refine R_aload_n hB (j := 0) dX2_pass_36 rfl rfl ?_
        refine R_iconst hB dX2_pass_37 ?_
        refine N_puti hB fp_X2_41 dX2_pass_38 rfl (by omega) (fun σ3 e3 => ?_)
        refine R_iconst hB dX2_pass_41 ?_
        refine R_istore hB (L' := [_, _, _, _, _]) dX2_pass_42 (Nat.le_of_ble_eq_true rfl) rfl ?_
        have lp_44 : ∀ (n_44 : Nat) (j : Int) (σ4 : Mem), ((σ 3 4 - j).toNat) < n_44 → (0 ≤ j ∧ j ≤ σ 3 4) → (∀ i, i ≠ 5 → σ4 i = σ1 i) → (∀ x, x ≠ 6 → σ4 5 x = σ1 5 x) → (σ4 5 6 = bsum (fun d : Nat => tsL (σ o) (σ 37) (σ 38) (σ 39) (ordL (σ 40) (σ 3 4).toNat) (σ o 1) (σ 25 0) (σ 25 1) (d : Int)) j.toNat) → Run Θ Γ 44 [(0, .ref (Th.r Θ 5)), (1, .ref (Th.r Θ o)), (2, .ref (Th.r Θ 3)), (3, .ref (Th.r Θ 25)), (4, .int (I j))] [] σ4 := by
          intro n_44
          induction n_44 with
          | zero => intro j σ4 h_m; exact absurd h_m (Nat.not_lt_zero _)
          | succ n_44 ih_44 =>
            intro j σ4 h_m hj hS4 h5 h6
            refine R_iload hB (j := 4) dX2_pass_44 rfl ?_
            refine R_aload_n hB (j := 2) dX2_pass_46 rfl rfl ?_
            refine R_geti hB fl_X2_28 dX2_pass_47 rfl ?_
            refine R_icmp_ge hB 101 (by omega) (by rw [hS4 3 (by decide), q3]; omega) dX2_pass_50 rfl (fun h50 => ?_) (fun h50 => ?_)
            · rw [hS4 3 (by decide), q3] at h50
              have hjn : j = σ 3 4 := by omega
              subst hjn
              exact R_vret hB hE rfl dX2_pass_101 (by
                refine ⟨fun i hi => ?_, ?_, ?_, fun s a b => ?_, fun d a b => ?_, h6⟩
                · rw [hS4 i (fun q => hi (by simp [q])), hI.1 i hi]
                · rw [h5 4 (by decide)]; exact hI.2.2.1
                · rw [h5 5 (by decide)]; exact hI.2.2.2.1
                · rw [hS4 47 (by decide)]; exact hI.2.2.2.2.1 s a b
                · have hin := hI.2.2.2.2.2.2 d (row_in hw ⟨a, b⟩)
                  rw [hS4 44 (by decide), hS4 46 (by decide)]
                  exact ⟨hin.1, hin.2.2⟩)
            · rw [hS4 3 (by decide), q3] at h50
              have hin := hI.2.2.2.2.2.2 j (row_in hw (by omega))
              have hj3 := hw.2.1 j (by omega) (by omega)
              have f1 := ftL_bd (σ o) (σ 37) (σ 38) (σ 39) j (ordL (σ 40) (σ 3 4).toNat) (σ o 1)
              have f2 := dpL_bd hz (σ 37) (σ 38) (σ 39) j (ordL (σ 40) (σ 3 4).toNat) (σ o 1)
              refine R_aload_n hB (j := 0) dX2_pass_53 rfl rfl ?_
              refine R_aload_n hB (j := 0) dX2_pass_54 rfl rfl ?_
              refine R_getr hB (46) fl_X2_18 dX2_pass_55 rfl rfl ?_
              refine R_iload hB (j := 4) dX2_pass_58 rfl ?_
              refine R_iald hB rfl (by omega) dX2_pass_60 ?_
              refine R_aload_n hB (j := 0) dX2_pass_61 rfl rfl ?_
              refine R_getr hB (45) fl_X2_15 dX2_pass_62 rfl rfl ?_
              refine R_iload hB (j := 4) dX2_pass_65 rfl ?_
              refine R_iald hB rfl (by omega) dX2_pass_67 ?_
              refine R_aload_n hB (j := 2) dX2_pass_68 rfl rfl ?_
              refine R_getr hB (37) fl_X2_44 dX2_pass_69 rfl rfl ?_
              refine R_iload hB (j := 4) dX2_pass_72 rfl ?_
              refine R_iald hB rfl (by omega) dX2_pass_74 ?_
              refine R_aload_n hB (j := 3) dX2_pass_75 rfl rfl ?_
              refine P_cV1 hB (s_testifies _ _ _ (by rw [hS4 46 (by decide), hin.2.2]; exact f1) (by rw [hS4 45 (by decide), hin.2.1]; omega) (by rw [hS4 37 (by decide), q37]; omega) (by rw [hS4 25 (by decide), q25]; exact hr) (by rw [h5 8 (by decide)]; exact hbd.2.2.2.2)) mv_X2_47 rfl rfl (by decide) dX2_pass_76 rfl rfl (Nat.le_of_ble_eq_true rfl) (fun z76 h76 => ?_)
              rw [hS4 46 (by decide), hin.2.2, hS4 45 (by decide), hin.2.1, hS4 37 (by decide), q37, hS4 25 (by decide), q25, h5 8 (by decide)] at h76
              have hL := late_iff hI.2.2.2.2.2.1 (hour := σ 37 j) (si := σ 25 1) hj3.1 hr.2.1.1 rfl
              have hT : z76 = if (fun d : Nat => tsL (σ o) (σ 37) (σ 38) (σ 39) (ordL (σ 40) (σ 3 4).toNat) (σ o 1) (σ 25 0) (σ 25 1) (d : Int)) j.toNat = true then 1 else 0 := by
                rw [h76]
                simp only [hL, tsL, show ((j.toNat : Nat) : Int) = j by omega]
                simp [and_assoc]
              refine R_if_eq hB 95 (by rw [hT]; split <;> omega) dX2_pass_79 rfl (fun h79 => ?_) (fun h79 => ?_)
              · refine R_iinc hB (j := 4) (L' := [_, _, _, _, _]) dX2_pass_95 rfl (Nat.le_of_ble_eq_true rfl) rfl ?_
                refine R_goto hB 44 dX2_pass_98 rfl ?_
                exact R_sub [1, 2, 3, 4, 0] rfl (ih_44 _ _ (by omega) (by omega) (fun i hi => by first | exact hS4 i hi | (rw [e5, up_row hi]; exact hS4 i hi)) (fun x hx => by first | exact h5 x hx | (rw [e5, up_n (fun q => hx q.2)]; exact h5 x hx)) (by
                  rw [show (j + 1).toNat = j.toNat + 1 by omega]
                  simp only [bsum]
                  first
                  | (rw [h6, if_neg (fun q => by rw [if_pos q] at hT; omega)]; omega)
                  | (rw [e5, up_s, h6, if_pos (by by_cases q : (fun d : Nat => tsL (σ o) (σ 37) (σ 38) (σ 39) (ordL (σ 40) (σ 3 4).toNat) (σ o 1) (σ 25 0) (σ 25 1) (d : Int)) j.toNat = true; exact q; exact absurd (by rw [if_neg q] at hT; exact hT) h79)])))
              · refine R_aload_n hB (j := 0) dX2_pass_82 rfl rfl ?_
                refine R_dup hB dX2_pass_83 rfl ?_
                refine R_geti hB fl_X2_41 dX2_pass_84 rfl ?_
                refine R_iconst hB dX2_pass_87 ?_
                refine R_iload hB (j := 4) dX2_pass_88 rfl ?_
                have hbs := bsum_in (fun d : Nat => tsL (σ o) (σ 37) (σ 38) (σ 39) (ordL (σ 40) (σ 3 4).toNat) (σ o 1) (σ 25 0) (σ 25 1) (d : Int)) j.toNat
                have hp2 := p2_8 j.toNat (by omega)
                refine R_ishl hB (2 ^ (j).toNat) (i_shl1z (by omega)) dX2_pass_90 ?_
                refine R_ior hB ((σ4 5 6) + 2 ^ (j).toNat) (i_oradd (by rw [h6]; exact hbs) (by omega)) dX2_pass_91 ?_
                refine N_puti hB fp_X2_41 dX2_pass_92 rfl (by rw [h6]; omega) (fun σ5 e5 => ?_)
                refine R_iinc hB (j := 4) (L' := [_, _, _, _, _]) dX2_pass_95 rfl (Nat.le_of_ble_eq_true rfl) rfl ?_
                refine R_goto hB 44 dX2_pass_98 rfl ?_
                exact R_sub [1, 2, 3, 4, 0] rfl (ih_44 _ _ (by omega) (by omega) (fun i hi => by first | exact hS4 i hi | (rw [e5, up_row hi]; exact hS4 i hi)) (fun x hx => by first | exact h5 x hx | (rw [e5, up_n (fun q => hx q.2)]; exact h5 x hx)) (by
                  rw [show (j + 1).toNat = j.toNat + 1 by omega]
                  simp only [bsum]
                  first
                  | (rw [h6, if_neg (fun q => by rw [if_pos q] at hT; omega)]; omega)
                  | (rw [e5, up_s, h6, if_pos (by by_cases q : (fun d : Nat => tsL (σ o) (σ 37) (σ 38) (σ 39) (ordL (σ 40) (σ 3 4).toNat) (σ o 1) (σ 25 0) (σ 25 1) (d : Int)) j.toNat = true; exact q; exact absurd (by rw [if_neg q] at hT; exact hT) h79)])))
        exact R_sub [1, 2, 3, 4, 0] rfl (lp_44 _ _ _ (Nat.lt_succ_self _) (by omega) (fun i hi => by rw [e3]; exact up_row hi) (fun x hx => by rw [e3]; exact up_n (fun q => hx q.2)) (by rw [e3]; exact up_s _ _ _ _))
      · rw [q3] at h14
        refine R_aload_n hB (j := 0) dX2_pass_17 rfl rfl ?_
        refine R_aload_n hB (j := 1) dX2_pass_18 rfl rfl ?_
        refine R_aload_n hB (j := 2) dX2_pass_19 rfl rfl ?_
        refine R_aload_n hB (j := 2) dX2_pass_20 rfl rfl ?_
        refine R_getr hB (40) fl_X2_34 dX2_pass_21 rfl rfl ?_
        refine R_iload hB (j := 4) dX2_pass_24 rfl ?_
        refine R_iald hB rfl (by omega) dX2_pass_26 ?_
        have ho1 := row_ord hw (k := k) (by omega)
        have hdd := hw.2.1 (σ 40 k) ho1.1.1 (by omega)
        have hbd := hI.bd hz (row_hr hw (by omega))
        rw [ordL_len] at hbd
        refine R_cV0 hB (s_meet_3 o ho _ (by rw [q40]; omega) (by rw [qo]; exact hz) (by rw [q40, q37, q38, q39]; exact hdd) hbd.1 (by omega) (by omega) (fun s a b => by have := hbd.2.2.2.1 s a b; omega) hbd.2.2.2.2) mv_X2_37 rfl rfl (by decide) dX2_pass_27 rfl rfl (Nat.le_of_ble_eq_true rfl) (fun σ2 h27 => ?_)
        rw [qo, q37, q38, q39, q40] at h27
        have hN := NightI_s hI h27 ho1.2 (by omega)
        rw [← ordL_k (σ 40) (k := k) (by omega)] at hN
        refine R_iinc hB (j := 4) (L' := [_, _, _, _, _]) dX2_pass_30 rfl (Nat.le_of_ble_eq_true rfl) rfl ?_
        refine R_goto hB 8 dX2_pass_33 rfl ?_
        exact R_sub [1, 2, 3, 4, 0] rfl (ih_8 _ _ (by omega) (by omega) hN)
  exact R_sub [1, 2, 3, 4, 0] rfl (lp_8 _ _ _ (Nat.lt_succ_self _) (by omega) (NightI_0 h2))
