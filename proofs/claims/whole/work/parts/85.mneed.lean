theorem s_isUnproven {Θ : Th} {σ : Mem} (d b : Int) (hd : 0 ≤ d ∧ d < σ 2 4) (hb : 0 ≤ b ∧ b < 256) (hR : RR σ) (h14 : σ 1 14 = 0) : Spc Θ M_X8_isUnproven 1 [.ref (Th.r Θ 1), .int (I d), .int (I b)] σ (fun z σ' => Same [1, 62, 63, 64, 65, 66] σ σ' ∧ (∀ k, k ≠ 15 → σ' 1 k = σ 1 k) ∧ RR σ' ∧ z = if cnt (fun s : Nat => cTS σ s d && decide (b / 2 ^ s % 2 ≠ 1)) (σ 0 2).toNat < σ 25 2 then 1 else 0) := by
  refine Spc_of (by decide +kernel) (Nat.le_of_ble_eq_true rfl) (fun Γ hB hE => ?_)
  show Run Θ Γ 0 [(0, .ref (Th.r Θ 1)), (1, .int (I d)), (2, .int (I b))] [] σ
  have hns := hR.1.ns
  have hds := hR.1.row.1
  refine R_aload_n hB (j := 0) dX8_isUnproven_0 rfl rfl ?_
  refine R_iload_n hB (j := 2) dX8_isUnproven_1 rfl rfl ?_
  refine N_puti hB fp_X8_168 dX8_isUnproven_2 rfl (by omega) (fun σ1 e1 => ?_)
  have R1 : RR σ1 := by rw [e1]; exact hR.fld (by decide)
  have m14 : σ1 1 14 = 0 := by rw [e1, up_n (by decide)]; exact h14
  have m15 : σ1 1 15 = b := by rw [e1, up_s]
  have S1 : Same [1, 62, 63, 64, 65, 66] σ σ1 := by rw [e1]; exact Same.up (by decide)
  have r0 : σ1 0 = σ 0 := S1 0 (by decide)
  have r2 : σ1 2 = σ 2 := S1 2 (by decide)
  refine R_aload_n hB (j := 0) dX8_isUnproven_5 rfl rfl ?_
  refine R_cV0 hB (s_runs (R1.npre (by omega) (by omega))) mv_X8_174 rfl rfl (by decide) dX8_isUnproven_6 rfl rfl (Nat.le_of_ble_eq_true rfl) (fun σ2 h6 => ?_)
  have wv := away_w R1 m14 (by rw [r2]; exact hd) h6
  rw [m15, r0, S1 25 (by decide)] at wv
  have ec : cnt (fun s : Nat => cTS σ1 s d && decide (b / 2 ^ s % 2 ≠ 1)) (σ 0 2).toNat = cnt (fun s : Nat => cTS σ s d && decide (b / 2 ^ s % 2 ≠ 1)) (σ 0 2).toNat := cnt_cg (fun s hs => by rw [cTS_mm (S1.wide (fun i q => by simp only [List.mem_cons, List.not_mem_nil, or_false] at *; omega)) (by omega)])
  rw [ec] at wv
  have k62 : σ2 1 2 = σ 0 2 := by rw [h6.1 1 (by decide), R1.2.2.1, r0]
  have F : Same [1, 62, 63, 64, 65, 66] σ σ2 := S1.tr h6.1 (fun _ q => q) (fun i q => by simp only [List.mem_cons, List.not_mem_nil, or_false] at *; omega)
  have Fk : ∀ k, k ≠ 15 → σ2 1 k = σ 1 k := fun k hk => by rw [h6.1 1 (by decide), e1, up_n (by omega)]
  refine R_aload_n hB (j := 0) dX8_isUnproven_9 rfl rfl ?_
  refine R_iload_n hB (j := 1) dX8_isUnproven_10 rfl rfl ?_
  refine P_cV1 hB (s_isProven _ (by omega) (by rw [k62]; omega)) mv_X8_211 rfl rfl (by decide) dX8_isUnproven_11 rfl rfl (Nat.le_of_ble_eq_true rfl) (fun z11 h11 => ?_)
  rw [wv] at h11
  refine R_if_ne hB 21 (by rw [h11]; split <;> omega) dX8_isUnproven_14 rfl (fun h14 => ?_) (fun h14 => ?_)
  · refine R_iconst hB dX8_isUnproven_21 ?_
    exact R_zret hB hE rfl (rfl) dX8_isUnproven_22 (by
      refine ⟨F, Fk, R1.ns h6.1, ?_⟩
      have h11' := un0 h11
      split <;> omega)
  · refine R_iconst hB dX8_isUnproven_17 ?_
    refine R_goto hB 22 dX8_isUnproven_18 rfl ?_
    exact R_zret hB hE rfl (rfl) dX8_isUnproven_22 (by
      refine ⟨F, Fk, R1.ns h6.1, ?_⟩
      have h11' := un0 h11
      split <;> omega)

theorem s_needBy {Θ : Th} {σ : Mem} (d : Int) (hd : 0 ≤ d ∧ d < σ 2 4) (h : InvC σ) (hR : Rel σ) : Spc Θ M_X8_needBy 1 [.ref (Th.r Θ 1), .int (I d)] σ (fun r σ' => FrM σ σ' ∧ RR σ' ∧ (-1 ≤ r ∧ r ≤ 2) ∧ NbQ σ σ' d r) := by
  refine Spc_of (by decide +kernel) (Nat.le_of_ble_eq_true rfl) (fun Γ hB hE => ?_)
  show Run Θ Γ 0 [(0, .ref (Th.r Θ 1)), (1, .int (I d))] [] σ
  have hns := h.ns
  have hds := h.row.1
  have hlw := h.2.2.2.1.2.2
  have hcc := cnt_in (fun s => cTS σ s d) (σ 0 2).toNat
  have hN8 : (σ 0 2).toNat ≤ 8 := by omega
  refine R_aload_n hB (j := 0) dX8_needBy_0 rfl rfl ?_
  refine R_cV0 hB (s_asTold h hR) mv_X8_171 rfl rfl (by decide) dX8_needBy_1 rfl rfl (Nat.le_of_ble_eq_true rfl) (fun σ1 h1 => ?_)
  obtain ⟨f1, f2, f3, f4⟩ := h1
  have r0 : σ1 0 = σ 0 := f1.1 0 (by decide)
  have r2 : σ1 2 = σ 2 := f1.1 2 (by decide)
  have n2 : σ1 1 2 = σ 0 2 := by rw [f2.2.2.1, r0]
  have n7 : σ1 1 7 = σ 2 4 := by rw [f2.2.2.2.1, r2]
  have cw : ∀ τ : Mem, FrM σ τ → ∀ b : Int, cnt (fun s : Nat => cTS τ s d && decide (b / 2 ^ s % 2 ≠ 1)) (τ 0 2).toNat = cnt (fun s : Nat => cTS σ s d && decide (b / 2 ^ s % 2 ≠ 1)) (σ 0 2).toNat := fun τ hτ b => by
    rw [hτ.1 0 (by decide)]
    exact cnt_cg (fun s hs => by rw [cTS_mm hτ.1 (by omega)])
  have cl : ∀ τ : Mem, FrM σ τ → τ 25 2 = σ 25 2 := fun τ hτ => by rw [hτ.1 25 (by decide)]
  have US : ∀ {τ τ2 : Mem}, Same [1, 62, 63, 64, 65, 66] τ τ2 → (∀ k, k ≠ 15 → τ2 1 k = τ 1 k) → FrM τ τ2 := fun q w => ⟨q.wide (fun i q => by simp only [List.mem_cons, List.not_mem_nil, or_false] at *; omega), fun k _ _ _ w2 => w k w2⟩
  refine R_aload_n hB (j := 0) dX8_needBy_4 rfl rfl ?_
  refine R_iload_n hB (j := 1) dX8_needBy_5 rfl rfl ?_
  refine R_iconst hB dX8_needBy_6 ?_
  refine R_cV1 hB (s_isUnproven d 0 (by rw [r2]; exact hd) (by omega) f2 f3) mv_X8_223 rfl rfl (by decide) dX8_needBy_7 rfl rfl (Nat.le_of_ble_eq_true rfl) (fun z7 σ2 h7 => ?_)
  obtain ⟨u1, u2, u3, u4⟩ := h7
  rw [cw σ1 f1, cl σ1 f1, aw_0] at u4
  have F2 := f1.tr (US u1 u2)
  have M2 : σ2 1 14 = 0 := by rw [u2 14 (by decide)]; exact f3
  refine R_if_eq hB 15 (by rw [u4]; split <;> omega) dX8_needBy_10 rfl (fun h10 => ?_) (fun h10 => ?_)
  · have hpc : σ 25 2 ≤ cnt (fun s => cTS σ s d) (σ 0 2).toNat := by
      split at u4 <;> omega
    refine R_iconst hB dX8_needBy_15 ?_
    refine R_istore_n hB (L' := [_, _, _]) dX8_needBy_16 rfl (Nat.le_of_ble_eq_true rfl) rfl ?_
    have lp_17 : ∀ (n_17 : Nat) (a : Int) (σ3 : Mem), ((σ 0 2 - a).toNat) < n_17 → (0 ≤ a ∧ a ≤ σ 0 2) → (FrM σ σ3) → (RR σ3) → (σ3 1 14 = 0) → (∀ j : Nat, (j : Int) < a → cTS σ j d = true → σ 25 2 < cnt (fun s => cTS σ s d) (σ 0 2).toNat) → Run Θ Γ 17 [(0, .ref (Th.r Θ 1)), (1, .int (I d)), (2, .int (I a))] [] σ3 := by
      intro n_17
      induction n_17 with
      | zero => intro a σ3 h_m; exact absurd h_m (Nat.not_lt_zero _)
      | succ n_17 ih_17 =>
        intro a σ3 h_m ha F3 R3 M3 hno
        have p2 : σ3 1 2 = σ 0 2 := by rw [R3.2.2.1, F3.1 0 (by decide)]
        refine R_iload_n hB (j := 2) dX8_needBy_17 rfl rfl ?_
        refine R_aload_n hB (j := 0) dX8_needBy_18 rfl rfl ?_
        refine R_geti hB fl_X8_114 dX8_needBy_19 rfl ?_
        refine R_icmp_ge hB 51 (by omega) (by rw [p2]; omega) dX8_needBy_22 rfl (fun h22 => ?_) (fun h22 => ?_)
        · rw [p2] at h22
          have hgt : σ 25 2 < cnt (fun s => cTS σ s d) (σ 0 2).toNat := by
            have ha2 : a = σ 0 2 := by omega
            by_cases c : ∃ j : Nat, (j : Int) < a ∧ cTS σ j d = true
            · obtain ⟨j, j1, j2⟩ := c
              exact hno j j1 j2
            · have c0 : cnt (fun s => cTS σ s d) (σ 0 2).toNat = 0 := cnt_0 (fun k hk => by
                cases w : cTS σ k d with
                | false => rfl
                | true => exact absurd ⟨k, by omega, w⟩ c)
              omega
          refine R_iconst hB dX8_needBy_51 ?_
          refine R_istore_n hB (L' := [_, _, _]) dX8_needBy_52 rfl (Nat.le_of_ble_eq_true rfl) rfl ?_
          have lp_53 : ∀ (n_53 : Nat) (a2 : Int) (σ6 : Mem), ((σ 0 2 - a2).toNat) < n_53 → (0 ≤ a2 ∧ a2 ≤ σ 0 2) → (FrM σ σ6) → (RR σ6) → (σ6 1 14 = 0) → (∀ x y : Nat, x < y → (y : Int) < σ 0 2 → (x : Int) < a2 → ¬ (cnt (fun s => cTS σ s d) (σ 0 2).toNat = σ 25 2 + 1 ∧ cTS σ x d = true ∧ cTS σ y d = true)) → Run Θ Γ 53 [(0, .ref (Th.r Θ 1)), (1, .int (I d)), (2, .int (I a2))] [] σ6 := by
            intro n_53
            induction n_53 with
            | zero => intro a2 σ6 h_m; exact absurd h_m (Nat.not_lt_zero _)
            | succ n_53 ih_53 =>
              intro a2 σ6 h_m ha2 F6 R6 M6 hB6
              have p6 : σ6 1 2 = σ 0 2 := by rw [R6.2.2.1, F6.1 0 (by decide)]
              refine R_iload_n hB (j := 2) dX8_needBy_53 rfl rfl ?_
              refine R_aload_n hB (j := 0) dX8_needBy_54 rfl rfl ?_
              refine R_geti hB fl_X8_114 dX8_needBy_55 rfl ?_
              refine R_icmp_ge hB 116 (by omega) (by rw [p6]; omega) dX8_needBy_58 rfl (fun h58 => ?_) (fun h58 => ?_)
              · rw [p6] at h58
                refine R_iconst hB dX8_needBy_116 ?_
                exact R_iret hB hE rfl dX8_needBy_117 (by
                  refine ⟨F6, R6, by omega, need_m ?_⟩
                  by_cases c : cnt (fun s => cTS σ s d) (σ 0 2).toNat = σ 25 2 + 1
                  · exfalso
                    obtain ⟨x, y, q1, q2, q3, q4⟩ := cnt_two (T := fun s => cTS σ s d) (N := (σ 0 2).toNat) (by omega)
                    exact hB6 x y q1 (by omega) (by omega) ⟨c, q3, q4⟩
                  · omega)
              · rw [p6] at h58
                refine R_iload_n hB (j := 2) dX8_needBy_61 rfl rfl ?_
                refine R_iconst hB dX8_needBy_62 ?_
                refine R_iadd hB dX8_needBy_63 ?_
                refine R_istore_n hB (L' := [_, _, _, _]) dX8_needBy_64 rfl (Nat.le_of_ble_eq_true rfl) rfl ?_
                have lp_65 : ∀ (n_65 : Nat) (b : Int) (σ7 : Mem), ((σ 0 2 - b).toNat) < n_65 → (a2 < b ∧ b ≤ σ 0 2) → (FrM σ σ7) → (RR σ7) → (σ7 1 14 = 0) → (∀ x y : Nat, x < y → (y : Int) < σ 0 2 → ((x : Int) < a2 ∨ ((x : Int) = a2 ∧ (y : Int) < b)) → ¬ (cnt (fun s => cTS σ s d) (σ 0 2).toNat = σ 25 2 + 1 ∧ cTS σ x d = true ∧ cTS σ y d = true)) → Run Θ Γ 65 [(0, .ref (Th.r Θ 1)), (1, .int (I d)), (2, .int (I a2)), (3, .int (I b))] [] σ7 := by
                  intro n_65
                  induction n_65 with
                  | zero => intro b σ7 h_m; exact absurd h_m (Nat.not_lt_zero _)
                  | succ n_65 ih_65 =>
                    intro b σ7 h_m hb F7 R7 M7 hB7
                    have p7 : σ7 1 2 = σ 0 2 := by rw [R7.2.2.1, F7.1 0 (by decide)]
                    refine R_iload_n hB (j := 3) dX8_needBy_65 rfl rfl ?_
                    refine R_aload_n hB (j := 0) dX8_needBy_66 rfl rfl ?_
                    refine R_geti hB fl_X8_114 dX8_needBy_67 rfl ?_
                    refine R_icmp_ge hB 110 (by omega) (by rw [p7]; omega) dX8_needBy_70 rfl (fun h70 => ?_) (fun h70 => ?_)
                    · rw [p7] at h70
                      refine R_iinc hB (j := 2) (L' := [_, _, _, _]) dX8_needBy_110 rfl (Nat.le_of_ble_eq_true rfl) rfl ?_
                      refine R_goto hB 53 dX8_needBy_113 rfl ?_
                      exact R_sub [1, 2, 0] rfl (ih_53 _ _ (by omega) (by omega) F7 R7 M7 (fun x y q1 q2 q3 => hB7 x y q1 q2 (by omega)))
                    · rw [p7] at h70
                      refine R_aload_n hB (j := 0) dX8_needBy_73 rfl rfl ?_
                      refine R_getr hB (67) fl_X8_53 dX8_needBy_74 rfl rfl ?_
                      refine R_iconst hB dX8_needBy_77 ?_
                      refine R_iload_n hB (j := 2) dX8_needBy_78 rfl rfl ?_
                      refine N_iast hB rfl (by omega) (by omega) dX8_needBy_79 (fun σ8 e8 => ?_)
                      refine R_aload_n hB (j := 0) dX8_needBy_80 rfl rfl ?_
                      refine R_getr hB (67) fl_X8_53 dX8_needBy_81 rfl rfl ?_
                      refine R_iconst hB dX8_needBy_84 ?_
                      refine R_iload_n hB (j := 3) dX8_needBy_85 rfl rfl ?_
                      refine N_iast hB rfl (by omega) (by omega) dX8_needBy_86 (fun σ9 e9 => ?_)
                      have R9 : RR σ9 := by
                        have S9 : ∀ j, j ≠ 67 → σ9 j = σ7 j := fun j hj => by rw [e9, up_row hj, e8, up_row hj]
                        refine ⟨R7.1.mm (fun i hi => S9 i (fun q => hi (by rw [q]; decide))), R7.2.1.mm ⟨fun i hi => S9 i (fun q => hi (by rw [q]; decide)), fun k _ _ _ _ => by rw [S9 1 (by decide)]⟩, ?_⟩
                        obtain ⟨a1, a2, a3, a4⟩ := R7.2.2
                        unfold RD
                        rw [S9 1 (by decide), S9 0 (by decide), S9 2 (by decide), S9 55 (by decide), S9 56 (by decide), S9 57 (by decide), S9 58 (by decide), S9 59 (by decide), S9 60 (by decide), S9 61 (by decide), S9 33 (by decide), S9 34 (by decide), S9 35 (by decide)]
                        refine ⟨a1, a2, fun s hs => ?_, a4⟩
                        have := R7.1.ns
                        rw [S9 (8 + s) (by omega)]; exact a3 s hs
                      have F9 : FrM σ σ9 := by rw [e9, e8]; exact (F7.tr (FrM.arr (by decide) (by decide))).tr (FrM.arr (by decide) (by decide))
                      have M9 : σ9 1 14 = 0 := by rw [e9, up_i (by decide), e8, up_i (by decide)]; exact M7
                      refine R_aload_n hB (j := 0) dX8_needBy_87 rfl rfl ?_
                      refine R_iload_n hB (j := 1) dX8_needBy_88 rfl rfl ?_
                      refine R_iconst hB dX8_needBy_89 ?_
                      refine R_iload_n hB (j := 2) dX8_needBy_90 rfl rfl ?_
                      refine R_ishl hB (2 ^ a2.toNat) (i_shl1z (by omega)) dX8_needBy_91 ?_
                      refine R_iconst hB dX8_needBy_92 ?_
                      refine R_iload_n hB (j := 3) dX8_needBy_93 rfl rfl ?_
                      refine R_ishl hB (2 ^ b.toNat) (i_shl1z (by omega)) dX8_needBy_94 ?_
                      refine R_ior hB (2 ^ a2.toNat + 2 ^ b.toNat) (i_oradd ⟨Int.le_of_lt (p2_pos _), p2_mono (by omega)⟩ (by omega)) dX8_needBy_95 ?_
                      refine R_cV1 hB (s_isUnproven d (2 ^ a2.toNat + 2 ^ b.toNat) (by rw [F9.1 2 (by decide)]; exact hd) (by have q1 := p2_8 a2.toNat (by omega); have q2 := p2_pos a2.toNat; have q3 := p2_8 b.toNat (by omega); have q4 := p2_pos b.toNat; have q5 : (2 : Int) ^ a2.toNat < 2 ^ b.toNat := p2_mono (by omega); omega) R9 M9) mv_X8_223 rfl rfl (by decide) dX8_needBy_96 rfl rfl (Nat.le_of_ble_eq_true rfl) (fun z96 σ10 h96 => ?_)
                      obtain ⟨v1, v2, v3, v4⟩ := h96
                      rw [cw σ9 F9, cl σ9 F9, aw_2 (fun s => cTS σ s d) hN8 (a := a2.toNat) (b := b.toNat) (by omega) (by omega)] at v4
                      have F10 := F9.tr (US v1 v2)
                      have M10 : σ10 1 14 = 0 := by rw [v2 14 (by decide)]; exact M9
                      refine R_if_eq hB 104 (by have := (un2 v4 hgt).1; omega) dX8_needBy_99 rfl (fun h99 => ?_) (fun h99 => ?_)
                      · have hno3 : ¬ (cnt (fun s => cTS σ s d) (σ 0 2).toNat = σ 25 2 + 1 ∧ cTS σ a2.toNat d = true ∧ cTS σ b.toNat d = true) := fun q => (un2 v4 hgt).2.mpr q h99
                        refine R_iinc hB (j := 3) (L' := [_, _, _, _]) dX8_needBy_104 rfl (Nat.le_of_ble_eq_true rfl) rfl ?_
                        refine R_goto hB 65 dX8_needBy_107 rfl ?_
                        exact R_sub [1, 2, 3, 0] rfl (ih_65 _ _ (by omega) (by omega) F10 v3 M10 (fun x y q1 q2 q3 => by
                          by_cases c : (x : Int) = a2 ∧ (y : Int) = b
                          · rw [show x = a2.toNat by omega, show y = b.toNat by omega]; exact hno3
                          · exact hB7 x y q1 q2 (by omega)))
                      · have hyes := (un2 v4 hgt).2.mp h99
                        refine R_iconst hB dX8_needBy_102 ?_
                        exact R_iret hB hE rfl dX8_needBy_103 (⟨F10, v3, by omega, need_2 (a := a2.toNat) (b := b.toNat) hns.2 (by omega) (by omega) hyes.1 hyes.2.1 hyes.2.2 (fun j q1 q2 => by
                          cases c : cTS σ j d with
                          | false => rfl
                          | true =>
                            exfalso
                            rcases Nat.lt_or_ge j a2.toNat with w | w
                            · exact hB7 j a2.toNat w (by omega) (Or.inl (by omega)) ⟨hyes.1, c, hyes.2.1⟩
                            · exact hB7 a2.toNat j (by omega) (by omega) (Or.inr ⟨by omega, by omega⟩) ⟨hyes.1, hyes.2.1, c⟩) (by rw [v1 67 (by decide), e9, up_n (by decide), e8, up_s]; omega) (by rw [v1 67 (by decide), e9, up_s]; omega)⟩)
                exact R_sub [1, 2, 3, 0] rfl (lp_65 _ _ _ (Nat.lt_succ_self _) (by omega) F6 R6 M6 (fun x y q1 q2 q3 => hB6 x y q1 q2 (by omega)))
          exact R_sub [1, 2, 0] rfl (lp_53 _ _ _ (Nat.lt_succ_self _) (by omega) F3 R3 M3 (fun x y q1 q2 q3 => by omega))
        · rw [p2] at h22
          refine R_aload_n hB (j := 0) dX8_needBy_25 rfl rfl ?_
          refine R_getr hB (67) fl_X8_53 dX8_needBy_26 rfl rfl ?_
          refine R_iconst hB dX8_needBy_29 ?_
          refine R_iload_n hB (j := 2) dX8_needBy_30 rfl rfl ?_
          refine N_iast hB rfl (by omega) (by omega) dX8_needBy_31 (fun σ4 e4 => ?_)
          have R4 : RR σ4 := by
            rw [e4]
            refine ⟨R3.1.mm (Same.up (by decide)), R3.2.1.mm (FrM.arr (by decide) (by decide)), ?_⟩
            obtain ⟨a1, a2, a3, a4⟩ := R3.2.2
            unfold RD
            have r : ∀ j, j ≠ 67 → up σ3 67 0 a j = σ3 j := fun j hj => up_row hj
            rw [r 1 (by decide), r 0 (by decide), r 2 (by decide), r 55 (by decide), r 56 (by decide), r 57 (by decide), r 58 (by decide), r 59 (by decide), r 60 (by decide), r 61 (by decide), r 33 (by decide), r 34 (by decide), r 35 (by decide)]
            refine ⟨a1, a2, fun s hs => ?_, a4⟩
            have := R3.1.ns
            rw [r (8 + s) (by omega)]; exact a3 s hs
          have F4 : FrM σ σ4 := by rw [e4]; exact F3.tr (FrM.arr (by decide) (by decide))
          have M4 : σ4 1 14 = 0 := by rw [e4, up_i (by decide)]; exact M3
          refine R_aload_n hB (j := 0) dX8_needBy_32 rfl rfl ?_
          refine R_iload_n hB (j := 1) dX8_needBy_33 rfl rfl ?_
          refine R_iconst hB dX8_needBy_34 ?_
          refine R_iload_n hB (j := 2) dX8_needBy_35 rfl rfl ?_
          refine R_ishl hB (2 ^ a.toNat) (i_shl1z (by omega)) dX8_needBy_36 ?_
          refine R_cV1 hB (s_isUnproven d (2 ^ a.toNat) (by rw [F4.1 2 (by decide)]; exact hd) (by have := p2_8 a.toNat (by omega); have := p2_pos a.toNat; omega) R4 M4) mv_X8_223 rfl rfl (by decide) dX8_needBy_37 rfl rfl (Nat.le_of_ble_eq_true rfl) (fun z37 σ5 h37 => ?_)
          obtain ⟨v1, v2, v3, v4⟩ := h37
          rw [cw σ4 F4, cl σ4 F4, aw_1 (fun s => cTS σ s d) hN8 (by omega)] at v4
          have F5 := F4.tr (US v1 v2)
          have M5 : σ5 1 14 = 0 := by rw [v2 14 (by decide)]; exact M4
          refine R_if_eq hB 45 (by have := (un1 v4 hpc).1; omega) dX8_needBy_40 rfl (fun h40 => ?_) (fun h40 => ?_)
          · have hno2 : cTS σ a.toNat d = true → σ 25 2 < cnt (fun s => cTS σ s d) (σ 0 2).toNat := fun q => by
              by_cases c : cnt (fun s => cTS σ s d) (σ 0 2).toNat = σ 25 2
              · exact absurd h40 ((un1 v4 hpc).2.mpr ⟨q, c⟩)
              · omega
            refine R_iinc hB (j := 2) (L' := [_, _, _]) dX8_needBy_45 rfl (Nat.le_of_ble_eq_true rfl) rfl ?_
            refine R_goto hB 17 dX8_needBy_48 rfl ?_
            exact R_sub [1, 2, 0] rfl (ih_17 _ _ (by omega) (by omega) F5 v3 M5 (fun j hj q => by
              by_cases c : j = a.toNat
              · rw [c] at q; exact hno2 q
              · exact hno j (by omega) q))
          · have hyes := (un1 v4 hpc).2.mp h40
            refine R_iconst hB dX8_needBy_43 ?_
            exact R_iret hB hE rfl dX8_needBy_44 (⟨F5, v3, by omega, need_1 (a := a.toNat) hns.2 (by omega) hyes.2 hyes.1 (fun j hj => by
              cases c : cTS σ j d with
              | false => rfl
              | true => exact absurd (hno j (by omega) c) (by omega)) (by rw [v1 67 (by decide), e4, up_s]; omega)⟩)
    exact R_sub [1, 2, 0] rfl (lp_17 _ _ _ (Nat.lt_succ_self _) (by omega) F2 u3 M2 (fun j hj => by omega))
  · refine R_iconst hB dX8_needBy_13 ?_
    exact R_iret hB hE rfl dX8_needBy_14 (⟨F2, u3, by omega, need_0 (by split at u4 <;> omega)⟩)

theorem s_ofRow {Θ : Th} {σ : Mem} (n i : Int) (hn : -1 ≤ n ∧ n ≤ 2) (hi : -1 ≤ i ∧ i < 2) : Spc Θ M_X8_ofRow 1 [.ref (Th.r Θ 1), .int (I n), .int (I i)] σ (Pu σ (fun z => z = if i = -1 then n else if i < n then σ 67 i else -1)) := by
  refine Spc_of (by decide +kernel) (Nat.le_of_ble_eq_true rfl) (fun Γ hB hE => ?_)
  show Run Θ Γ 0 [(0, .ref (Th.r Θ 1)), (1, .int (I n)), (2, .int (I i))] [] σ
  refine R_iload_n hB (j := 2) dX8_ofRow_0 rfl rfl ?_
  refine R_iconst hB dX8_ofRow_1 ?_
  refine R_icmp_ne hB 9 (by omega) (by omega) dX8_ofRow_2 rfl (fun h2 => ?_) (fun h2 => ?_)
  · refine R_iload_n hB (j := 2) dX8_ofRow_9 rfl rfl ?_
    refine R_iload_n hB (j := 1) dX8_ofRow_10 rfl rfl ?_
    refine R_icmp_ge hB 23 (by omega) (by omega) dX8_ofRow_11 rfl (fun h11 => ?_) (fun h11 => ?_)
    · refine R_iconst hB dX8_ofRow_23 ?_
      exact R_iret hB hE rfl dX8_ofRow_24 (⟨rfl, by
        first
        | (rw [if_pos h2])
        | (rw [if_neg h2, if_pos h11])
        | (rw [if_neg h2, if_neg (by omega)])⟩)
    · refine R_aload_n hB (j := 0) dX8_ofRow_14 rfl rfl ?_
      refine R_getr hB (67) fl_X8_53 dX8_ofRow_15 rfl rfl ?_
      refine R_iload_n hB (j := 2) dX8_ofRow_18 rfl rfl ?_
      refine R_iald hB rfl (by omega) dX8_ofRow_19 ?_
      refine R_goto hB 24 dX8_ofRow_20 rfl ?_
      exact R_iret hB hE rfl dX8_ofRow_24 (⟨rfl, by
        first
        | (rw [if_pos h2])
        | (rw [if_neg h2, if_pos h11])
        | (rw [if_neg h2, if_neg (by omega)])⟩)
  · refine R_iload_n hB (j := 1) dX8_ofRow_5 rfl rfl ?_
    refine R_goto hB 24 dX8_ofRow_6 rfl ?_
    exact R_iret hB hE rfl dX8_ofRow_24 (⟨rfl, by
      first
      | (rw [if_pos h2])
      | (rw [if_neg h2, if_pos h11])
      | (rw [if_neg h2, if_neg (by omega)])⟩)

theorem s_mneed {Θ : Th} {σ : Mem} (d w : Int) (hd0 : rng d) (hw : rng w) (h : InvC σ) (hR : Rel σ) : Spc Θ M_X8_need 1 [.ref (Th.r Θ 1), .int (I d), .int (I w)] σ (fun r σ' => FrM σ σ' ∧ r = if (0 ≤ d ∧ d < σ 2 4) ∧ (-1 ≤ w ∧ w < 2) then cNd σ d w else -2) := by
  refine Spc_of (by decide +kernel) (Nat.le_of_ble_eq_true rfl) (fun Γ hB hE => ?_)
  show Run Θ Γ 0 [(0, .ref (Th.r Θ 1)), (1, .int (I d)), (2, .int (I w))] [] σ
  refine R_aload_n hB (j := 0) dX8_need_0 rfl rfl ?_
  refine R_iload_n hB (j := 1) dX8_need_1 rfl rfl ?_
  refine R_cV1 hB (s_isDeed _ hd0 h hR) mv_X8_142 rfl rfl (by decide) dX8_need_2 rfl rfl (Nat.le_of_ble_eq_true rfl) (fun z2 σ1 h2 => ?_)
  obtain ⟨f1, f2, f3⟩ := h2
  have hns := h.ns
  refine R_if_eq hB 30 (by rw [f3]; split <;> omega) dX8_need_5 rfl (fun h5 => ?_) (fun h5 => ?_)
  · have hc : ¬ (0 ≤ d ∧ d < σ 2 4) := fun q => by
      rw [if_pos q] at f3
      omega
    refine R_bipush hB dX8_need_30 rfl ?_
    exact R_iret hB hE rfl dX8_need_32 (by
      first
      | exact ⟨f1.tr k1, by rw [if_pos (by omega)]; exact h24⟩
      | exact ⟨f1, by rw [if_neg (by omega)]⟩)
  · have hc : 0 ≤ d ∧ d < σ 2 4 := by
      by_cases q : 0 ≤ d ∧ d < σ 2 4
      · exact q
      · rw [if_neg q] at f3; omega
    refine R_iload_n hB (j := 2) dX8_need_8 rfl rfl ?_
    refine R_iconst hB dX8_need_9 ?_
    refine R_iconst hB dX8_need_10 ?_
    refine P_cS1 hB (s_in _ _ _ (by omega) (by omega) (by omega)) ms_X8_98 (by decide) dX8_need_11 rfl rfl (Nat.le_of_ble_eq_true rfl) (fun z11 h11 => ?_)
    refine R_if_eq hB 30 (by rw [h11]; split <;> omega) dX8_need_14 rfl (fun h14 => ?_) (fun h14 => ?_)
    · have hd : ¬ (-1 ≤ w ∧ w ≤ 1) := fun q => by
        rw [if_pos q] at h11
        omega
      refine R_bipush hB dX8_need_30 rfl ?_
      exact R_iret hB hE rfl dX8_need_32 (by
        first
        | exact ⟨f1.tr k1, by rw [if_pos (by omega)]; exact h24⟩
        | exact ⟨f1, by rw [if_neg (by omega)]⟩)
    · have hd : -1 ≤ w ∧ w ≤ 1 := by
        by_cases q : -1 ≤ w ∧ w ≤ 1
        · exact q
        · rw [if_neg q] at h11; omega
      refine R_aload_n hB (j := 0) dX8_need_17 rfl rfl ?_
      refine R_aload_n hB (j := 0) dX8_need_18 rfl rfl ?_
      refine R_iload_n hB (j := 1) dX8_need_19 rfl rfl ?_
      refine R_cV1 hB (s_needBy d (by rw [f1.1 2 (by decide)]; exact hc) f2.1 f2.2.1) mv_X8_226 rfl rfl (by decide) dX8_need_20 rfl rfl (Nat.le_of_ble_eq_true rfl) (fun z20 σ2 h20 => ?_)
      obtain ⟨k1, k2, k3, k4⟩ := h20
      have k5 := k4 w hd.1 (by omega)
      rw [mm_cNd f1.1 hns.2] at k5
      refine R_iload_n hB (j := 2) dX8_need_23 rfl rfl ?_
      refine P_cV1 hB (s_ofRow _ _ k3 (by omega)) mv_X8_229 rfl rfl (by decide) dX8_need_24 rfl rfl (Nat.le_of_ble_eq_true rfl) (fun z24 h24 => ?_)
      rw [k5] at h24
      refine R_goto hB 32 dX8_need_27 rfl ?_
      exact R_iret hB hE rfl dX8_need_32 (by
        first
        | exact ⟨f1.tr k1, by rw [if_pos (by omega)]; exact h24⟩
        | exact ⟨f1, by rw [if_neg (by omega)]⟩)
