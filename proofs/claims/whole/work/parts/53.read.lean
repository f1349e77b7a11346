def RdR (σ σ' : Mem) (it : Int → Int) (r : Int) : Prop := (∀ i, i ∉ [4, 41, 42, 43] → σ' i = σ i) ∧ σ' 4 3 = σ 4 3 + r ∧ (∀ j, 0 ≤ j → j < r → σ' 41 (σ 4 3 + j) = it (3 * j) ∧ σ' 42 (σ 4 3 + j) = it (3 * j + 1) ∧ σ' 43 (σ 4 3 + j) = it (3 * j + 2)) ∧ ∀ x, x < σ 4 3 → σ' 41 x = σ 41 x ∧ σ' 42 x = σ 42 x ∧ σ' 43 x = σ 43 x
theorem RdR_s {σ σ1 σ2 : Mem} {it : Int → Int} {k : Int} (h : RdR σ σ1 it k) (hk : 0 ≤ k) (e : σ2 = up (up (up (up σ1 41 (σ1 4 3) (it (3 * k))) 42 (σ1 4 3) (it (3 * k + 1))) 43 (σ1 4 3) (it (3 * k + 2))) 4 3 (σ1 4 3 + 1)) : RdR σ σ2 it (k + 1) := by
  obtain ⟨h1, h2, h3, h4⟩ := h
  rw [h2] at e
  refine ⟨fun i hi => ?_, ?_, fun j q1 q2 => ?_, fun x hx => ?_⟩
  · have hi' := hi
    simp only [List.mem_cons, List.not_mem_nil, or_false, not_or] at hi'
    rw [e, up_row hi'.1, up_row hi'.2.2.2, up_row hi'.2.2.1, up_row hi'.2.1, h1 i hi]
  · rw [e, up_s]; omega
  · by_cases c : j = k
    · rw [c, e]
      simp [up]
    · have := h3 j q1 (by omega)
      rw [e]
      simp [up, show ¬ (σ 4 3 + j = σ 4 3 + k) by omega]
      exact this
  · have := h4 x hx
    rw [e]
    simp [up, show ¬ (x = σ 4 3 + k) by omega]
    exact this

theorem s_read {Θ : Th} {σ : Mem} (s : Int) (hs : rng s) (h : InvC σ) : Spc Θ M_X7_read 1 [.ref (Th.r Θ 0), .int (I s)] σ (fun r σ' => (¬ (0 ≤ s ∧ s < 4) ∧ r = -2 ∧ σ' = σ) ∨ ((0 ≤ s ∧ s < 4) ∧ σ (18 + s.toNat) 1 = 1 ∧ r = -10 - 1 ∧ σ' = up σ 0 7 1 ∧ InvC σ') ∨ ((0 ≤ s ∧ s < 4) ∧ σ (18 + s.toNat) 1 = 0 ∧ RdQ (σ (49 + s.toNat)) (σ (18 + s.toNat) 3) (σ 4 3) r ∧ RdR σ σ' (σ (49 + s.toNat)) r ∧ InvC σ')) := by
  refine Spc_of (by decide +kernel) (Nat.le_of_ble_eq_true rfl) (fun Γ hB hE => ?_)
  show Run Θ Γ 0 [(0, .ref (Th.r Θ 0)), (1, .int (I s))] [] σ
  have htl := h.2.2.2.2.1
  have htn := htl.1
  refine R_iload_n hB (j := 1) dX7_read_0 rfl rfl ?_
  refine R_iconst hB dX7_read_1 ?_
  refine P_cS1 hB (s_within _ _ (by omega) (by omega)) ms_X7_89 (by decide) dX7_read_2 rfl rfl (Nat.le_of_ble_eq_true rfl) (fun z2 h2 => ?_)
  refine R_if_ne hB 11 (by rw [h2]; split <;> omega) dX7_read_5 rfl (fun h5 => ?_) (fun h5 => ?_)
  · have hy : 0 ≤ s ∧ s < 4 := by split at h2 <;> omega
    rcases (show s = 0 ∨ s = 1 ∨ s = 2 ∨ s = 3 by omega) with rfl | rfl | rfl | rfl
    · show Run Θ Γ 11 [(0, .ref (Th.r Θ 0)), (1, .int (I 0))] [] σ
      refine R_aload_n hB (j := 0) dX7_read_11 rfl rfl ?_
      refine R_getr hB (24) fl_X7_41 dX7_read_12 rfl rfl ?_
      refine R_iload_n hB (j := 1) dX7_read_15 rfl rfl ?_
      refine R_aald hB (18) rfl (by decide) (by omega) rfl dX7_read_16 ?_
      refine R_astore_n hB (L' := [_, _, _]) dX7_read_17 rfl (Nat.le_of_ble_eq_true rfl) rfl ?_
      refine R_aload_n hB (j := 0) dX7_read_18 rfl rfl ?_
      refine R_getz hB fl_X7_233 dX7_read_19 rfl ?_
      have hq : (σ 18 1 = 0 ∨ σ 18 1 = 1) ∧ (0 ≤ σ 18 2 ∧ σ 18 2 < 3) ∧ (0 ≤ σ 18 3 ∧ σ 18 3 ≤ 60) := h.2.2.2.2.2.1 0 (by decide)
      refine R_if_eq hB 31 (by omega) dX7_read_22 rfl (fun h22 => ?_) (fun h22 => ?_)
      · refine R_aload_n hB (j := 1) dX7_read_31 rfl rfl ?_
        refine R_getr hB (4) fl_X7_35 dX7_read_32 rfl rfl ?_
        refine R_geti hB fl_X7_231 dX7_read_35 rfl ?_
        refine R_istore_n hB (L' := [_, _, _, _]) dX7_read_38 rfl (Nat.le_of_ble_eq_true rfl) rfl ?_
        refine R_iconst hB dX7_read_39 ?_
        refine R_istore hB (L' := [_, _, _, _, _]) dX7_read_40 (Nat.le_of_ble_eq_true rfl) rfl ?_
        have lp_42 : ∀ (n_42 : Nat) (i k : Int) (σ1 : Mem), ((60 - i).toNat) < n_42 → (0 ≤ k) → (i = 3 * k) → (∀ j, 0 ≤ j → j < k → RdOk (σ 49) (σ 18 3) (σ 4 3) j) → (RdR σ σ1 (σ 49) k) → (TlOK σ1) → Run Θ Γ 42 [(0, .ref (Th.r Θ 0)), (1, .int (I 0)), (2, .ref (Th.r Θ 18)), (3, .int (I (σ 4 3))), (4, .int (I i))] [] σ1 := by
          intro n_42
          induction n_42 with
          | zero => intro i k σ1 h_m; exact absurd h_m (Nat.not_lt_zero _)
          | succ n_42 ih_42 =>
            intro i k σ1 h_m hk hi3 hal hR hT
            have kB : σ1 18 = σ 18 := hR.1 18 (by decide)
            have kI : σ1 49 = σ 49 := hR.1 49 (by decide)
            have g4 : σ1 4 3 = σ 4 3 + k := hR.2.1
            have g4b := hT.1
            rw [g4] at g4b
            have jn_137 : ∀ (k2 : Int) (σ2 : Mem), (RdR σ σ2 (σ 49) k2) → (TlOK σ2) → (RdQ (σ 49) (σ 18 3) (σ 4 3) k2) → Run Θ Γ 137 [(0, .ref (Th.r Θ 0)), (3, .int (I (σ 4 3)))] [] σ2 := by
              intro k2 σ2 hR2 hT2 hQ2
              have g42 := hT2.1
              refine R_aload_n hB (j := 0) dX7_read_137 rfl rfl ?_
              refine R_getr hB (4) fl_X7_35 dX7_read_138 rfl rfl ?_
              refine R_geti hB fl_X7_231 dX7_read_141 rfl ?_
              refine R_iload_n hB (j := 1) dX7_read_144 rfl rfl ?_
              refine R_isub hB dX7_read_145 ?_
              exact R_iret hB hE rfl dX7_read_146 (Or.inr (Or.inr ⟨hy, (by show σ 18 1 = 0; omega), (by rw [hR2.2.1]; show RdQ (σ 49) (σ 18 3) (σ 4 3) _; rw [show σ 4 3 + k2 - σ 4 3 = k2 by omega]; exact hQ2), (by rw [hR2.2.1]; show RdR σ σ2 (σ 49) _; rw [show σ 4 3 + k2 - σ 4 3 = k2 by omega]; exact hR2), h.tl hR2.1 hT2⟩))
            refine R_iload hB (j := 4) dX7_read_42 rfl ?_
            refine R_iconst hB dX7_read_44 ?_
            refine R_iadd hB dX7_read_45 ?_
            refine R_aload_n hB (j := 2) dX7_read_46 rfl rfl ?_
            refine R_geti hB fl_X7_240 dX7_read_47 rfl ?_
            refine R_icmp_ge hB 137 (by omega) (by rw [kB]; omega) dX7_read_50 rfl (fun h50 => ?_) (fun h50 => ?_)
            · rw [kB] at h50
              exact R_sub [0, 3] rfl (jn_137 k _ hR hT ⟨hk, hal, fun q => by have := q.1; omega⟩)
            · rw [kB] at h50
              refine R_aload_n hB (j := 0) dX7_read_53 rfl rfl ?_
              refine R_getr hB (4) fl_X7_35 dX7_read_54 rfl rfl ?_
              refine R_geti hB fl_X7_231 dX7_read_57 rfl ?_
              refine R_bipush hB dX7_read_60 rfl ?_
              refine R_icmp_ge hB 137 (by rw [g4]; omega) (by omega) dX7_read_62 rfl (fun h62 => ?_) (fun h62 => ?_)
              · rw [g4] at h62
                exact R_sub [0, 3] rfl (jn_137 k _ hR hT ⟨hk, hal, fun q => by have := q.2.1; omega⟩)
              · rw [g4] at h62
                refine R_canon (fun hcn => ?_)
                have y0 := hcn.i 49 i (by decide) (by decide) (by decide)
                have y1 := hcn.i 49 (i + 1) (by decide) (by decide) (by decide)
                have y2 := hcn.i 49 (i + 2) (by decide) (by decide) (by decide)
                refine R_aload_n hB (j := 2) dX7_read_65 rfl rfl ?_
                refine R_getr hB (49) fl_X7_241 dX7_read_66 rfl rfl ?_
                refine R_iload hB (j := 4) dX7_read_69 rfl ?_
                refine R_iald hB rfl (by omega) dX7_read_71 ?_
                refine R_aload_n hB (j := 2) dX7_read_72 rfl rfl ?_
                refine R_getr hB (49) fl_X7_241 dX7_read_73 rfl rfl ?_
                refine R_iload hB (j := 4) dX7_read_76 rfl ?_
                refine R_iconst hB dX7_read_78 ?_
                refine R_iadd hB dX7_read_79 ?_
                refine R_iald hB rfl (by omega) dX7_read_80 ?_
                refine R_aload_n hB (j := 2) dX7_read_81 rfl rfl ?_
                refine R_getr hB (49) fl_X7_241 dX7_read_82 rfl rfl ?_
                refine R_iload hB (j := 4) dX7_read_85 rfl ?_
                refine R_iconst hB dX7_read_87 ?_
                refine R_iadd hB dX7_read_88 ?_
                refine R_iald hB rfl (by omega) dX7_read_89 ?_
                refine P_cS1 hB (s_mayBe _ _ _ y0 y1 y2) ms_X7_227 (by decide) dX7_read_90 rfl rfl (Nat.le_of_ble_eq_true rfl) (fun z90 h90 => ?_)
                rw [kI] at h90
                refine R_if_ne hB 99 (by rw [h90]; split <;> omega) dX7_read_93 rfl (fun h93 => ?_) (fun h93 => ?_)
                · have hok : tokP (σ 49 i) (σ 49 (i + 1)) (σ 49 (i + 2)) := by split at h90 <;> omega
                  refine R_aload_n hB (j := 0) dX7_read_99 rfl rfl ?_
                  refine R_getr hB (4) fl_X7_35 dX7_read_100 rfl rfl ?_
                  refine R_aload_n hB (j := 2) dX7_read_103 rfl rfl ?_
                  refine R_getr hB (49) fl_X7_241 dX7_read_104 rfl rfl ?_
                  refine R_iload hB (j := 4) dX7_read_107 rfl ?_
                  refine R_iald hB rfl (by omega) dX7_read_109 ?_
                  refine R_aload_n hB (j := 2) dX7_read_110 rfl rfl ?_
                  refine R_getr hB (49) fl_X7_241 dX7_read_111 rfl rfl ?_
                  refine R_iload hB (j := 4) dX7_read_114 rfl ?_
                  refine R_iconst hB dX7_read_116 ?_
                  refine R_iadd hB dX7_read_117 ?_
                  refine R_iald hB rfl (by omega) dX7_read_118 ?_
                  refine R_aload_n hB (j := 2) dX7_read_119 rfl rfl ?_
                  refine R_getr hB (49) fl_X7_241 dX7_read_120 rfl rfl ?_
                  refine R_iload hB (j := 4) dX7_read_123 rfl ?_
                  refine R_iconst hB dX7_read_125 ?_
                  refine R_iadd hB dX7_read_126 ?_
                  refine R_iald hB rfl (by omega) dX7_read_127 ?_
                  refine R_cV0 hB (s_tadd _ _ _ (by rw [kI]; exact hok.1) (by rw [kI]; exact hok.2.1) (by rw [kI]; exact hok.2.2) (by rw [g4]; omega)) mv_X7_232 rfl rfl (by decide) dX7_read_128 rfl rfl (Nat.le_of_ble_eq_true rfl) (fun σ3 h128 => ?_)
                  rw [kI] at h128
                  have hT3 := hT.add hok (by rw [g4]; omega) h128
                  rw [hi3] at h128 hok
                  have hR3 := RdR_s hR hk h128
                  refine R_iinc hB (j := 4) (L' := [_, _, _, _, _]) dX7_read_131 rfl (Nat.le_of_ble_eq_true rfl) rfl ?_
                  refine R_goto hB 42 dX7_read_134 rfl ?_
                  exact R_sub [1, 2, 3, 4, 0] rfl (ih_42 _ (k + 1) _ (by omega) (by omega) (by omega) (fun j q1 q2 => by
                    by_cases c : j = k
                    · rw [c]; exact ⟨by omega, by omega, hok⟩
                    · exact hal j q1 (by omega)) hR3 hT3)
                · have hno : ¬ tokP (σ 49 i) (σ 49 (i + 1)) (σ 49 (i + 2)) := by split at h90 <;> omega
                  refine R_goto hB 137 dX7_read_96 rfl ?_
                  exact R_sub [0, 3] rfl (jn_137 k _ hR hT ⟨hk, hal, fun q => hno (by rw [hi3]; exact q.2.2)⟩)
        exact R_sub [3, 4, 2, 1, 0] rfl (lp_42 _ _ 0 _ (Nat.lt_succ_self _) (by omega) rfl (fun j q1 q2 => by omega) ⟨fun _ _ => rfl, by omega, fun j q1 q2 => by omega, fun _ _ => ⟨rfl, rfl, rfl⟩⟩ htl)
      · refine R_aload_n hB (j := 1) dX7_read_25 rfl rfl ?_
        refine R_iconst hB dX7_read_26 ?_
        refine R_cV1 hB (s_found _ (by omega)) mv_X7_237 rfl rfl (by decide) dX7_read_27 rfl rfl (Nat.le_of_ble_eq_true rfl) (fun z27 σ1 h27 => ?_)
        exact R_iret hB hE rfl dX7_read_30 (Or.inr (Or.inl ⟨hy, (by show σ 18 1 = 1; omega), h27.1, h27.2, by rw [h27.2]; exact h.fnd (by omega)⟩))
    · show Run Θ Γ 11 [(0, .ref (Th.r Θ 0)), (1, .int (I 1))] [] σ
      refine R_aload_n hB (j := 0) dX7_read_11 rfl rfl ?_
      refine R_getr hB (24) fl_X7_41 dX7_read_12 rfl rfl ?_
      refine R_iload_n hB (j := 1) dX7_read_15 rfl rfl ?_
      refine R_aald hB (19) rfl (by decide) (by omega) rfl dX7_read_16 ?_
      refine R_astore_n hB (L' := [_, _, _]) dX7_read_17 rfl (Nat.le_of_ble_eq_true rfl) rfl ?_
      refine R_aload_n hB (j := 0) dX7_read_18 rfl rfl ?_
      refine R_getz hB fl_X7_233 dX7_read_19 rfl ?_
      have hq : (σ 19 1 = 0 ∨ σ 19 1 = 1) ∧ (0 ≤ σ 19 2 ∧ σ 19 2 < 3) ∧ (0 ≤ σ 19 3 ∧ σ 19 3 ≤ 60) := h.2.2.2.2.2.1 1 (by decide)
      refine R_if_eq hB 31 (by omega) dX7_read_22 rfl (fun h22 => ?_) (fun h22 => ?_)
      · refine R_aload_n hB (j := 1) dX7_read_31 rfl rfl ?_
        refine R_getr hB (4) fl_X7_35 dX7_read_32 rfl rfl ?_
        refine R_geti hB fl_X7_231 dX7_read_35 rfl ?_
        refine R_istore_n hB (L' := [_, _, _, _]) dX7_read_38 rfl (Nat.le_of_ble_eq_true rfl) rfl ?_
        refine R_iconst hB dX7_read_39 ?_
        refine R_istore hB (L' := [_, _, _, _, _]) dX7_read_40 (Nat.le_of_ble_eq_true rfl) rfl ?_
        have lp_42 : ∀ (n_42 : Nat) (i k : Int) (σ1 : Mem), ((60 - i).toNat) < n_42 → (0 ≤ k) → (i = 3 * k) → (∀ j, 0 ≤ j → j < k → RdOk (σ 50) (σ 19 3) (σ 4 3) j) → (RdR σ σ1 (σ 50) k) → (TlOK σ1) → Run Θ Γ 42 [(0, .ref (Th.r Θ 0)), (1, .int (I 1)), (2, .ref (Th.r Θ 19)), (3, .int (I (σ 4 3))), (4, .int (I i))] [] σ1 := by
          intro n_42
          induction n_42 with
          | zero => intro i k σ1 h_m; exact absurd h_m (Nat.not_lt_zero _)
          | succ n_42 ih_42 =>
            intro i k σ1 h_m hk hi3 hal hR hT
            have kB : σ1 19 = σ 19 := hR.1 19 (by decide)
            have kI : σ1 50 = σ 50 := hR.1 50 (by decide)
            have g4 : σ1 4 3 = σ 4 3 + k := hR.2.1
            have g4b := hT.1
            rw [g4] at g4b
            have jn_137 : ∀ (k2 : Int) (σ2 : Mem), (RdR σ σ2 (σ 50) k2) → (TlOK σ2) → (RdQ (σ 50) (σ 19 3) (σ 4 3) k2) → Run Θ Γ 137 [(0, .ref (Th.r Θ 0)), (3, .int (I (σ 4 3)))] [] σ2 := by
              intro k2 σ2 hR2 hT2 hQ2
              have g42 := hT2.1
              refine R_aload_n hB (j := 0) dX7_read_137 rfl rfl ?_
              refine R_getr hB (4) fl_X7_35 dX7_read_138 rfl rfl ?_
              refine R_geti hB fl_X7_231 dX7_read_141 rfl ?_
              refine R_iload_n hB (j := 1) dX7_read_144 rfl rfl ?_
              refine R_isub hB dX7_read_145 ?_
              exact R_iret hB hE rfl dX7_read_146 (Or.inr (Or.inr ⟨hy, (by show σ 19 1 = 0; omega), (by rw [hR2.2.1]; show RdQ (σ 50) (σ 19 3) (σ 4 3) _; rw [show σ 4 3 + k2 - σ 4 3 = k2 by omega]; exact hQ2), (by rw [hR2.2.1]; show RdR σ σ2 (σ 50) _; rw [show σ 4 3 + k2 - σ 4 3 = k2 by omega]; exact hR2), h.tl hR2.1 hT2⟩))
            refine R_iload hB (j := 4) dX7_read_42 rfl ?_
            refine R_iconst hB dX7_read_44 ?_
            refine R_iadd hB dX7_read_45 ?_
            refine R_aload_n hB (j := 2) dX7_read_46 rfl rfl ?_
            refine R_geti hB fl_X7_240 dX7_read_47 rfl ?_
            refine R_icmp_ge hB 137 (by omega) (by rw [kB]; omega) dX7_read_50 rfl (fun h50 => ?_) (fun h50 => ?_)
            · rw [kB] at h50
              exact R_sub [0, 3] rfl (jn_137 k _ hR hT ⟨hk, hal, fun q => by have := q.1; omega⟩)
            · rw [kB] at h50
              refine R_aload_n hB (j := 0) dX7_read_53 rfl rfl ?_
              refine R_getr hB (4) fl_X7_35 dX7_read_54 rfl rfl ?_
              refine R_geti hB fl_X7_231 dX7_read_57 rfl ?_
              refine R_bipush hB dX7_read_60 rfl ?_
              refine R_icmp_ge hB 137 (by rw [g4]; omega) (by omega) dX7_read_62 rfl (fun h62 => ?_) (fun h62 => ?_)
              · rw [g4] at h62
                exact R_sub [0, 3] rfl (jn_137 k _ hR hT ⟨hk, hal, fun q => by have := q.2.1; omega⟩)
              · rw [g4] at h62
                refine R_canon (fun hcn => ?_)
                have y0 := hcn.i 50 i (by decide) (by decide) (by decide)
                have y1 := hcn.i 50 (i + 1) (by decide) (by decide) (by decide)
                have y2 := hcn.i 50 (i + 2) (by decide) (by decide) (by decide)
                refine R_aload_n hB (j := 2) dX7_read_65 rfl rfl ?_
                refine R_getr hB (50) fl_X7_241 dX7_read_66 rfl rfl ?_
                refine R_iload hB (j := 4) dX7_read_69 rfl ?_
                refine R_iald hB rfl (by omega) dX7_read_71 ?_
                refine R_aload_n hB (j := 2) dX7_read_72 rfl rfl ?_
                refine R_getr hB (50) fl_X7_241 dX7_read_73 rfl rfl ?_
                refine R_iload hB (j := 4) dX7_read_76 rfl ?_
                refine R_iconst hB dX7_read_78 ?_
                refine R_iadd hB dX7_read_79 ?_
                refine R_iald hB rfl (by omega) dX7_read_80 ?_
                refine R_aload_n hB (j := 2) dX7_read_81 rfl rfl ?_
                refine R_getr hB (50) fl_X7_241 dX7_read_82 rfl rfl ?_
                refine R_iload hB (j := 4) dX7_read_85 rfl ?_
                refine R_iconst hB dX7_read_87 ?_
                refine R_iadd hB dX7_read_88 ?_
                refine R_iald hB rfl (by omega) dX7_read_89 ?_
                refine P_cS1 hB (s_mayBe _ _ _ y0 y1 y2) ms_X7_227 (by decide) dX7_read_90 rfl rfl (Nat.le_of_ble_eq_true rfl) (fun z90 h90 => ?_)
                rw [kI] at h90
                refine R_if_ne hB 99 (by rw [h90]; split <;> omega) dX7_read_93 rfl (fun h93 => ?_) (fun h93 => ?_)
                · have hok : tokP (σ 50 i) (σ 50 (i + 1)) (σ 50 (i + 2)) := by split at h90 <;> omega
                  refine R_aload_n hB (j := 0) dX7_read_99 rfl rfl ?_
                  refine R_getr hB (4) fl_X7_35 dX7_read_100 rfl rfl ?_
                  refine R_aload_n hB (j := 2) dX7_read_103 rfl rfl ?_
                  refine R_getr hB (50) fl_X7_241 dX7_read_104 rfl rfl ?_
                  refine R_iload hB (j := 4) dX7_read_107 rfl ?_
                  refine R_iald hB rfl (by omega) dX7_read_109 ?_
                  refine R_aload_n hB (j := 2) dX7_read_110 rfl rfl ?_
                  refine R_getr hB (50) fl_X7_241 dX7_read_111 rfl rfl ?_
                  refine R_iload hB (j := 4) dX7_read_114 rfl ?_
                  refine R_iconst hB dX7_read_116 ?_
                  refine R_iadd hB dX7_read_117 ?_
                  refine R_iald hB rfl (by omega) dX7_read_118 ?_
                  refine R_aload_n hB (j := 2) dX7_read_119 rfl rfl ?_
                  refine R_getr hB (50) fl_X7_241 dX7_read_120 rfl rfl ?_
                  refine R_iload hB (j := 4) dX7_read_123 rfl ?_
                  refine R_iconst hB dX7_read_125 ?_
                  refine R_iadd hB dX7_read_126 ?_
                  refine R_iald hB rfl (by omega) dX7_read_127 ?_
                  refine R_cV0 hB (s_tadd _ _ _ (by rw [kI]; exact hok.1) (by rw [kI]; exact hok.2.1) (by rw [kI]; exact hok.2.2) (by rw [g4]; omega)) mv_X7_232 rfl rfl (by decide) dX7_read_128 rfl rfl (Nat.le_of_ble_eq_true rfl) (fun σ3 h128 => ?_)
                  rw [kI] at h128
                  have hT3 := hT.add hok (by rw [g4]; omega) h128
                  rw [hi3] at h128 hok
                  have hR3 := RdR_s hR hk h128
                  refine R_iinc hB (j := 4) (L' := [_, _, _, _, _]) dX7_read_131 rfl (Nat.le_of_ble_eq_true rfl) rfl ?_
                  refine R_goto hB 42 dX7_read_134 rfl ?_
                  exact R_sub [1, 2, 3, 4, 0] rfl (ih_42 _ (k + 1) _ (by omega) (by omega) (by omega) (fun j q1 q2 => by
                    by_cases c : j = k
                    · rw [c]; exact ⟨by omega, by omega, hok⟩
                    · exact hal j q1 (by omega)) hR3 hT3)
                · have hno : ¬ tokP (σ 50 i) (σ 50 (i + 1)) (σ 50 (i + 2)) := by split at h90 <;> omega
                  refine R_goto hB 137 dX7_read_96 rfl ?_
                  exact R_sub [0, 3] rfl (jn_137 k _ hR hT ⟨hk, hal, fun q => hno (by rw [hi3]; exact q.2.2)⟩)
        exact R_sub [3, 4, 2, 1, 0] rfl (lp_42 _ _ 0 _ (Nat.lt_succ_self _) (by omega) rfl (fun j q1 q2 => by omega) ⟨fun _ _ => rfl, by omega, fun j q1 q2 => by omega, fun _ _ => ⟨rfl, rfl, rfl⟩⟩ htl)
      · refine R_aload_n hB (j := 1) dX7_read_25 rfl rfl ?_
        refine R_iconst hB dX7_read_26 ?_
        refine R_cV1 hB (s_found _ (by omega)) mv_X7_237 rfl rfl (by decide) dX7_read_27 rfl rfl (Nat.le_of_ble_eq_true rfl) (fun z27 σ1 h27 => ?_)
        exact R_iret hB hE rfl dX7_read_30 (Or.inr (Or.inl ⟨hy, (by show σ 19 1 = 1; omega), h27.1, h27.2, by rw [h27.2]; exact h.fnd (by omega)⟩))
    · show Run Θ Γ 11 [(0, .ref (Th.r Θ 0)), (1, .int (I 2))] [] σ
      refine R_aload_n hB (j := 0) dX7_read_11 rfl rfl ?_
      refine R_getr hB (24) fl_X7_41 dX7_read_12 rfl rfl ?_
      refine R_iload_n hB (j := 1) dX7_read_15 rfl rfl ?_
      refine R_aald hB (20) rfl (by decide) (by omega) rfl dX7_read_16 ?_
      refine R_astore_n hB (L' := [_, _, _]) dX7_read_17 rfl (Nat.le_of_ble_eq_true rfl) rfl ?_
      refine R_aload_n hB (j := 0) dX7_read_18 rfl rfl ?_
      refine R_getz hB fl_X7_233 dX7_read_19 rfl ?_
      have hq : (σ 20 1 = 0 ∨ σ 20 1 = 1) ∧ (0 ≤ σ 20 2 ∧ σ 20 2 < 3) ∧ (0 ≤ σ 20 3 ∧ σ 20 3 ≤ 60) := h.2.2.2.2.2.1 2 (by decide)
      refine R_if_eq hB 31 (by omega) dX7_read_22 rfl (fun h22 => ?_) (fun h22 => ?_)
      · refine R_aload_n hB (j := 1) dX7_read_31 rfl rfl ?_
        refine R_getr hB (4) fl_X7_35 dX7_read_32 rfl rfl ?_
        refine R_geti hB fl_X7_231 dX7_read_35 rfl ?_
        refine R_istore_n hB (L' := [_, _, _, _]) dX7_read_38 rfl (Nat.le_of_ble_eq_true rfl) rfl ?_
        refine R_iconst hB dX7_read_39 ?_
        refine R_istore hB (L' := [_, _, _, _, _]) dX7_read_40 (Nat.le_of_ble_eq_true rfl) rfl ?_
        have lp_42 : ∀ (n_42 : Nat) (i k : Int) (σ1 : Mem), ((60 - i).toNat) < n_42 → (0 ≤ k) → (i = 3 * k) → (∀ j, 0 ≤ j → j < k → RdOk (σ 51) (σ 20 3) (σ 4 3) j) → (RdR σ σ1 (σ 51) k) → (TlOK σ1) → Run Θ Γ 42 [(0, .ref (Th.r Θ 0)), (1, .int (I 2)), (2, .ref (Th.r Θ 20)), (3, .int (I (σ 4 3))), (4, .int (I i))] [] σ1 := by
          intro n_42
          induction n_42 with
          | zero => intro i k σ1 h_m; exact absurd h_m (Nat.not_lt_zero _)
          | succ n_42 ih_42 =>
            intro i k σ1 h_m hk hi3 hal hR hT
            have kB : σ1 20 = σ 20 := hR.1 20 (by decide)
            have kI : σ1 51 = σ 51 := hR.1 51 (by decide)
            have g4 : σ1 4 3 = σ 4 3 + k := hR.2.1
            have g4b := hT.1
            rw [g4] at g4b
            have jn_137 : ∀ (k2 : Int) (σ2 : Mem), (RdR σ σ2 (σ 51) k2) → (TlOK σ2) → (RdQ (σ 51) (σ 20 3) (σ 4 3) k2) → Run Θ Γ 137 [(0, .ref (Th.r Θ 0)), (3, .int (I (σ 4 3)))] [] σ2 := by
              intro k2 σ2 hR2 hT2 hQ2
              have g42 := hT2.1
              refine R_aload_n hB (j := 0) dX7_read_137 rfl rfl ?_
              refine R_getr hB (4) fl_X7_35 dX7_read_138 rfl rfl ?_
              refine R_geti hB fl_X7_231 dX7_read_141 rfl ?_
              refine R_iload_n hB (j := 1) dX7_read_144 rfl rfl ?_
              refine R_isub hB dX7_read_145 ?_
              exact R_iret hB hE rfl dX7_read_146 (Or.inr (Or.inr ⟨hy, (by show σ 20 1 = 0; omega), (by rw [hR2.2.1]; show RdQ (σ 51) (σ 20 3) (σ 4 3) _; rw [show σ 4 3 + k2 - σ 4 3 = k2 by omega]; exact hQ2), (by rw [hR2.2.1]; show RdR σ σ2 (σ 51) _; rw [show σ 4 3 + k2 - σ 4 3 = k2 by omega]; exact hR2), h.tl hR2.1 hT2⟩))
            refine R_iload hB (j := 4) dX7_read_42 rfl ?_
            refine R_iconst hB dX7_read_44 ?_
            refine R_iadd hB dX7_read_45 ?_
            refine R_aload_n hB (j := 2) dX7_read_46 rfl rfl ?_
            refine R_geti hB fl_X7_240 dX7_read_47 rfl ?_
            refine R_icmp_ge hB 137 (by omega) (by rw [kB]; omega) dX7_read_50 rfl (fun h50 => ?_) (fun h50 => ?_)
            · rw [kB] at h50
              exact R_sub [0, 3] rfl (jn_137 k _ hR hT ⟨hk, hal, fun q => by have := q.1; omega⟩)
            · rw [kB] at h50
              refine R_aload_n hB (j := 0) dX7_read_53 rfl rfl ?_
              refine R_getr hB (4) fl_X7_35 dX7_read_54 rfl rfl ?_
              refine R_geti hB fl_X7_231 dX7_read_57 rfl ?_
              refine R_bipush hB dX7_read_60 rfl ?_
              refine R_icmp_ge hB 137 (by rw [g4]; omega) (by omega) dX7_read_62 rfl (fun h62 => ?_) (fun h62 => ?_)
              · rw [g4] at h62
                exact R_sub [0, 3] rfl (jn_137 k _ hR hT ⟨hk, hal, fun q => by have := q.2.1; omega⟩)
              · rw [g4] at h62
                refine R_canon (fun hcn => ?_)
                have y0 := hcn.i 51 i (by decide) (by decide) (by decide)
                have y1 := hcn.i 51 (i + 1) (by decide) (by decide) (by decide)
                have y2 := hcn.i 51 (i + 2) (by decide) (by decide) (by decide)
                refine R_aload_n hB (j := 2) dX7_read_65 rfl rfl ?_
                refine R_getr hB (51) fl_X7_241 dX7_read_66 rfl rfl ?_
                refine R_iload hB (j := 4) dX7_read_69 rfl ?_
                refine R_iald hB rfl (by omega) dX7_read_71 ?_
                refine R_aload_n hB (j := 2) dX7_read_72 rfl rfl ?_
                refine R_getr hB (51) fl_X7_241 dX7_read_73 rfl rfl ?_
                refine R_iload hB (j := 4) dX7_read_76 rfl ?_
                refine R_iconst hB dX7_read_78 ?_
                refine R_iadd hB dX7_read_79 ?_
                refine R_iald hB rfl (by omega) dX7_read_80 ?_
                refine R_aload_n hB (j := 2) dX7_read_81 rfl rfl ?_
                refine R_getr hB (51) fl_X7_241 dX7_read_82 rfl rfl ?_
                refine R_iload hB (j := 4) dX7_read_85 rfl ?_
                refine R_iconst hB dX7_read_87 ?_
                refine R_iadd hB dX7_read_88 ?_
                refine R_iald hB rfl (by omega) dX7_read_89 ?_
                refine P_cS1 hB (s_mayBe _ _ _ y0 y1 y2) ms_X7_227 (by decide) dX7_read_90 rfl rfl (Nat.le_of_ble_eq_true rfl) (fun z90 h90 => ?_)
                rw [kI] at h90
                refine R_if_ne hB 99 (by rw [h90]; split <;> omega) dX7_read_93 rfl (fun h93 => ?_) (fun h93 => ?_)
                · have hok : tokP (σ 51 i) (σ 51 (i + 1)) (σ 51 (i + 2)) := by split at h90 <;> omega
                  refine R_aload_n hB (j := 0) dX7_read_99 rfl rfl ?_
                  refine R_getr hB (4) fl_X7_35 dX7_read_100 rfl rfl ?_
                  refine R_aload_n hB (j := 2) dX7_read_103 rfl rfl ?_
                  refine R_getr hB (51) fl_X7_241 dX7_read_104 rfl rfl ?_
                  refine R_iload hB (j := 4) dX7_read_107 rfl ?_
                  refine R_iald hB rfl (by omega) dX7_read_109 ?_
                  refine R_aload_n hB (j := 2) dX7_read_110 rfl rfl ?_
                  refine R_getr hB (51) fl_X7_241 dX7_read_111 rfl rfl ?_
                  refine R_iload hB (j := 4) dX7_read_114 rfl ?_
                  refine R_iconst hB dX7_read_116 ?_
                  refine R_iadd hB dX7_read_117 ?_
                  refine R_iald hB rfl (by omega) dX7_read_118 ?_
                  refine R_aload_n hB (j := 2) dX7_read_119 rfl rfl ?_
                  refine R_getr hB (51) fl_X7_241 dX7_read_120 rfl rfl ?_
                  refine R_iload hB (j := 4) dX7_read_123 rfl ?_
                  refine R_iconst hB dX7_read_125 ?_
                  refine R_iadd hB dX7_read_126 ?_
                  refine R_iald hB rfl (by omega) dX7_read_127 ?_
                  refine R_cV0 hB (s_tadd _ _ _ (by rw [kI]; exact hok.1) (by rw [kI]; exact hok.2.1) (by rw [kI]; exact hok.2.2) (by rw [g4]; omega)) mv_X7_232 rfl rfl (by decide) dX7_read_128 rfl rfl (Nat.le_of_ble_eq_true rfl) (fun σ3 h128 => ?_)
                  rw [kI] at h128
                  have hT3 := hT.add hok (by rw [g4]; omega) h128
                  rw [hi3] at h128 hok
                  have hR3 := RdR_s hR hk h128
                  refine R_iinc hB (j := 4) (L' := [_, _, _, _, _]) dX7_read_131 rfl (Nat.le_of_ble_eq_true rfl) rfl ?_
                  refine R_goto hB 42 dX7_read_134 rfl ?_
                  exact R_sub [1, 2, 3, 4, 0] rfl (ih_42 _ (k + 1) _ (by omega) (by omega) (by omega) (fun j q1 q2 => by
                    by_cases c : j = k
                    · rw [c]; exact ⟨by omega, by omega, hok⟩
                    · exact hal j q1 (by omega)) hR3 hT3)
                · have hno : ¬ tokP (σ 51 i) (σ 51 (i + 1)) (σ 51 (i + 2)) := by split at h90 <;> omega
                  refine R_goto hB 137 dX7_read_96 rfl ?_
                  exact R_sub [0, 3] rfl (jn_137 k _ hR hT ⟨hk, hal, fun q => hno (by rw [hi3]; exact q.2.2)⟩)
        exact R_sub [3, 4, 2, 1, 0] rfl (lp_42 _ _ 0 _ (Nat.lt_succ_self _) (by omega) rfl (fun j q1 q2 => by omega) ⟨fun _ _ => rfl, by omega, fun j q1 q2 => by omega, fun _ _ => ⟨rfl, rfl, rfl⟩⟩ htl)
      · refine R_aload_n hB (j := 1) dX7_read_25 rfl rfl ?_
        refine R_iconst hB dX7_read_26 ?_
        refine R_cV1 hB (s_found _ (by omega)) mv_X7_237 rfl rfl (by decide) dX7_read_27 rfl rfl (Nat.le_of_ble_eq_true rfl) (fun z27 σ1 h27 => ?_)
        exact R_iret hB hE rfl dX7_read_30 (Or.inr (Or.inl ⟨hy, (by show σ 20 1 = 1; omega), h27.1, h27.2, by rw [h27.2]; exact h.fnd (by omega)⟩))
    · show Run Θ Γ 11 [(0, .ref (Th.r Θ 0)), (1, .int (I 3))] [] σ
      refine R_aload_n hB (j := 0) dX7_read_11 rfl rfl ?_
      refine R_getr hB (24) fl_X7_41 dX7_read_12 rfl rfl ?_
      refine R_iload_n hB (j := 1) dX7_read_15 rfl rfl ?_
      refine R_aald hB (21) rfl (by decide) (by omega) rfl dX7_read_16 ?_
      refine R_astore_n hB (L' := [_, _, _]) dX7_read_17 rfl (Nat.le_of_ble_eq_true rfl) rfl ?_
      refine R_aload_n hB (j := 0) dX7_read_18 rfl rfl ?_
      refine R_getz hB fl_X7_233 dX7_read_19 rfl ?_
      have hq : (σ 21 1 = 0 ∨ σ 21 1 = 1) ∧ (0 ≤ σ 21 2 ∧ σ 21 2 < 3) ∧ (0 ≤ σ 21 3 ∧ σ 21 3 ≤ 60) := h.2.2.2.2.2.1 3 (by decide)
      refine R_if_eq hB 31 (by omega) dX7_read_22 rfl (fun h22 => ?_) (fun h22 => ?_)
      · refine R_aload_n hB (j := 1) dX7_read_31 rfl rfl ?_
        refine R_getr hB (4) fl_X7_35 dX7_read_32 rfl rfl ?_
        refine R_geti hB fl_X7_231 dX7_read_35 rfl ?_
        refine R_istore_n hB (L' := [_, _, _, _]) dX7_read_38 rfl (Nat.le_of_ble_eq_true rfl) rfl ?_
        refine R_iconst hB dX7_read_39 ?_
        refine R_istore hB (L' := [_, _, _, _, _]) dX7_read_40 (Nat.le_of_ble_eq_true rfl) rfl ?_
        have lp_42 : ∀ (n_42 : Nat) (i k : Int) (σ1 : Mem), ((60 - i).toNat) < n_42 → (0 ≤ k) → (i = 3 * k) → (∀ j, 0 ≤ j → j < k → RdOk (σ 52) (σ 21 3) (σ 4 3) j) → (RdR σ σ1 (σ 52) k) → (TlOK σ1) → Run Θ Γ 42 [(0, .ref (Th.r Θ 0)), (1, .int (I 3)), (2, .ref (Th.r Θ 21)), (3, .int (I (σ 4 3))), (4, .int (I i))] [] σ1 := by
          intro n_42
          induction n_42 with
          | zero => intro i k σ1 h_m; exact absurd h_m (Nat.not_lt_zero _)
          | succ n_42 ih_42 =>
            intro i k σ1 h_m hk hi3 hal hR hT
            have kB : σ1 21 = σ 21 := hR.1 21 (by decide)
            have kI : σ1 52 = σ 52 := hR.1 52 (by decide)
            have g4 : σ1 4 3 = σ 4 3 + k := hR.2.1
            have g4b := hT.1
            rw [g4] at g4b
            have jn_137 : ∀ (k2 : Int) (σ2 : Mem), (RdR σ σ2 (σ 52) k2) → (TlOK σ2) → (RdQ (σ 52) (σ 21 3) (σ 4 3) k2) → Run Θ Γ 137 [(0, .ref (Th.r Θ 0)), (3, .int (I (σ 4 3)))] [] σ2 := by
              intro k2 σ2 hR2 hT2 hQ2
              have g42 := hT2.1
              refine R_aload_n hB (j := 0) dX7_read_137 rfl rfl ?_
              refine R_getr hB (4) fl_X7_35 dX7_read_138 rfl rfl ?_
              refine R_geti hB fl_X7_231 dX7_read_141 rfl ?_
              refine R_iload_n hB (j := 1) dX7_read_144 rfl rfl ?_
              refine R_isub hB dX7_read_145 ?_
              exact R_iret hB hE rfl dX7_read_146 (Or.inr (Or.inr ⟨hy, (by show σ 21 1 = 0; omega), (by rw [hR2.2.1]; show RdQ (σ 52) (σ 21 3) (σ 4 3) _; rw [show σ 4 3 + k2 - σ 4 3 = k2 by omega]; exact hQ2), (by rw [hR2.2.1]; show RdR σ σ2 (σ 52) _; rw [show σ 4 3 + k2 - σ 4 3 = k2 by omega]; exact hR2), h.tl hR2.1 hT2⟩))
            refine R_iload hB (j := 4) dX7_read_42 rfl ?_
            refine R_iconst hB dX7_read_44 ?_
            refine R_iadd hB dX7_read_45 ?_
            refine R_aload_n hB (j := 2) dX7_read_46 rfl rfl ?_
            refine R_geti hB fl_X7_240 dX7_read_47 rfl ?_
            refine R_icmp_ge hB 137 (by omega) (by rw [kB]; omega) dX7_read_50 rfl (fun h50 => ?_) (fun h50 => ?_)
            · rw [kB] at h50
              exact R_sub [0, 3] rfl (jn_137 k _ hR hT ⟨hk, hal, fun q => by have := q.1; omega⟩)
            · rw [kB] at h50
              refine R_aload_n hB (j := 0) dX7_read_53 rfl rfl ?_
              refine R_getr hB (4) fl_X7_35 dX7_read_54 rfl rfl ?_
              refine R_geti hB fl_X7_231 dX7_read_57 rfl ?_
              refine R_bipush hB dX7_read_60 rfl ?_
              refine R_icmp_ge hB 137 (by rw [g4]; omega) (by omega) dX7_read_62 rfl (fun h62 => ?_) (fun h62 => ?_)
              · rw [g4] at h62
                exact R_sub [0, 3] rfl (jn_137 k _ hR hT ⟨hk, hal, fun q => by have := q.2.1; omega⟩)
              · rw [g4] at h62
                refine R_canon (fun hcn => ?_)
                have y0 := hcn.i 52 i (by decide) (by decide) (by decide)
                have y1 := hcn.i 52 (i + 1) (by decide) (by decide) (by decide)
                have y2 := hcn.i 52 (i + 2) (by decide) (by decide) (by decide)
                refine R_aload_n hB (j := 2) dX7_read_65 rfl rfl ?_
                refine R_getr hB (52) fl_X7_241 dX7_read_66 rfl rfl ?_
                refine R_iload hB (j := 4) dX7_read_69 rfl ?_
                refine R_iald hB rfl (by omega) dX7_read_71 ?_
                refine R_aload_n hB (j := 2) dX7_read_72 rfl rfl ?_
                refine R_getr hB (52) fl_X7_241 dX7_read_73 rfl rfl ?_
                refine R_iload hB (j := 4) dX7_read_76 rfl ?_
                refine R_iconst hB dX7_read_78 ?_
                refine R_iadd hB dX7_read_79 ?_
                refine R_iald hB rfl (by omega) dX7_read_80 ?_
                refine R_aload_n hB (j := 2) dX7_read_81 rfl rfl ?_
                refine R_getr hB (52) fl_X7_241 dX7_read_82 rfl rfl ?_
                refine R_iload hB (j := 4) dX7_read_85 rfl ?_
                refine R_iconst hB dX7_read_87 ?_
                refine R_iadd hB dX7_read_88 ?_
                refine R_iald hB rfl (by omega) dX7_read_89 ?_
                refine P_cS1 hB (s_mayBe _ _ _ y0 y1 y2) ms_X7_227 (by decide) dX7_read_90 rfl rfl (Nat.le_of_ble_eq_true rfl) (fun z90 h90 => ?_)
                rw [kI] at h90
                refine R_if_ne hB 99 (by rw [h90]; split <;> omega) dX7_read_93 rfl (fun h93 => ?_) (fun h93 => ?_)
                · have hok : tokP (σ 52 i) (σ 52 (i + 1)) (σ 52 (i + 2)) := by split at h90 <;> omega
                  refine R_aload_n hB (j := 0) dX7_read_99 rfl rfl ?_
                  refine R_getr hB (4) fl_X7_35 dX7_read_100 rfl rfl ?_
                  refine R_aload_n hB (j := 2) dX7_read_103 rfl rfl ?_
                  refine R_getr hB (52) fl_X7_241 dX7_read_104 rfl rfl ?_
                  refine R_iload hB (j := 4) dX7_read_107 rfl ?_
                  refine R_iald hB rfl (by omega) dX7_read_109 ?_
                  refine R_aload_n hB (j := 2) dX7_read_110 rfl rfl ?_
                  refine R_getr hB (52) fl_X7_241 dX7_read_111 rfl rfl ?_
                  refine R_iload hB (j := 4) dX7_read_114 rfl ?_
                  refine R_iconst hB dX7_read_116 ?_
                  refine R_iadd hB dX7_read_117 ?_
                  refine R_iald hB rfl (by omega) dX7_read_118 ?_
                  refine R_aload_n hB (j := 2) dX7_read_119 rfl rfl ?_
                  refine R_getr hB (52) fl_X7_241 dX7_read_120 rfl rfl ?_
                  refine R_iload hB (j := 4) dX7_read_123 rfl ?_
                  refine R_iconst hB dX7_read_125 ?_
                  refine R_iadd hB dX7_read_126 ?_
                  refine R_iald hB rfl (by omega) dX7_read_127 ?_
                  refine R_cV0 hB (s_tadd _ _ _ (by rw [kI]; exact hok.1) (by rw [kI]; exact hok.2.1) (by rw [kI]; exact hok.2.2) (by rw [g4]; omega)) mv_X7_232 rfl rfl (by decide) dX7_read_128 rfl rfl (Nat.le_of_ble_eq_true rfl) (fun σ3 h128 => ?_)
                  rw [kI] at h128
                  have hT3 := hT.add hok (by rw [g4]; omega) h128
                  rw [hi3] at h128 hok
                  have hR3 := RdR_s hR hk h128
                  refine R_iinc hB (j := 4) (L' := [_, _, _, _, _]) dX7_read_131 rfl (Nat.le_of_ble_eq_true rfl) rfl ?_
                  refine R_goto hB 42 dX7_read_134 rfl ?_
                  exact R_sub [1, 2, 3, 4, 0] rfl (ih_42 _ (k + 1) _ (by omega) (by omega) (by omega) (fun j q1 q2 => by
                    by_cases c : j = k
                    · rw [c]; exact ⟨by omega, by omega, hok⟩
                    · exact hal j q1 (by omega)) hR3 hT3)
                · have hno : ¬ tokP (σ 52 i) (σ 52 (i + 1)) (σ 52 (i + 2)) := by split at h90 <;> omega
                  refine R_goto hB 137 dX7_read_96 rfl ?_
                  exact R_sub [0, 3] rfl (jn_137 k _ hR hT ⟨hk, hal, fun q => hno (by rw [hi3]; exact q.2.2)⟩)
        exact R_sub [3, 4, 2, 1, 0] rfl (lp_42 _ _ 0 _ (Nat.lt_succ_self _) (by omega) rfl (fun j q1 q2 => by omega) ⟨fun _ _ => rfl, by omega, fun j q1 q2 => by omega, fun _ _ => ⟨rfl, rfl, rfl⟩⟩ htl)
      · refine R_aload_n hB (j := 1) dX7_read_25 rfl rfl ?_
        refine R_iconst hB dX7_read_26 ?_
        refine R_cV1 hB (s_found _ (by omega)) mv_X7_237 rfl rfl (by decide) dX7_read_27 rfl rfl (Nat.le_of_ble_eq_true rfl) (fun z27 σ1 h27 => ?_)
        exact R_iret hB hE rfl dX7_read_30 (Or.inr (Or.inl ⟨hy, (by show σ 21 1 = 1; omega), h27.1, h27.2, by rw [h27.2]; exact h.fnd (by omega)⟩))
  · have hno : ¬ (0 ≤ s ∧ s < 4) := by split at h2 <;> omega
    refine R_bipush hB dX7_read_8 rfl ?_
    exact R_iret hB hE rfl dX7_read_10 (Or.inl ⟨hno, rfl, rfl⟩)
