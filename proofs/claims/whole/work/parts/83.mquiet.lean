theorem s_quietOf {Θ : Th} {σ : Mem} (house sound i : Int) (ha : 0 ≤ house ∧ house < 10) (hb : 0 ≤ sound ∧ sound < 4) (hi : -1 ≤ i ∧ i < 50) (h : InvC σ) (hR : Rel σ) : Spc Θ M_X8_quietOf 1 [.ref (Th.r Θ 1), .int (I house), .int (I sound), .int (I i)] σ (fun r σ' => FrM σ σ' ∧ RR σ' ∧ r = cQg σ house sound i) := by
  refine Spc_of (by decide +kernel) (Nat.le_of_ble_eq_true rfl) (fun Γ hB hE => ?_)
  show Run Θ Γ 0 [(0, .ref (Th.r Θ 1)), (1, .int (I house)), (2, .int (I sound)), (3, .int (I i))] [] σ
  have hns := h.ns
  have hds := h.row.1
  refine R_aload_n hB (j := 0) dX8_quietOf_0 rfl rfl ?_
  refine R_cV0 hB (s_asTold h hR) mv_X8_171 rfl rfl (by decide) dX8_quietOf_1 rfl rfl (Nat.le_of_ble_eq_true rfl) (fun σ1 h1 => ?_)
  obtain ⟨f1, f2, f3, f4⟩ := h1
  have r0 : σ1 0 = σ 0 := f1.1 0 (by decide)
  have r2 : σ1 2 = σ 2 := f1.1 2 (by decide)
  have n2 : σ1 1 2 = σ 0 2 := by rw [f2.2.2.1, r0]
  have n7 : σ1 1 7 = σ 2 4 := by rw [f2.2.2.2.1, r2]
  refine R_aload_n hB (j := 0) dX8_quietOf_4 rfl rfl ?_
  refine R_geti hB fl_X8_117 dX8_quietOf_5 rfl ?_
  refine R_bipush hB dX8_quietOf_8 rfl ?_
  refine R_icmp_ne hB 16 (by rw [n7]; omega) (by omega) dX8_quietOf_10 rfl (fun h10 => ?_) (fun h10 => ?_)
  · rw [n7] at h10
    refine R_iconst hB dX8_quietOf_16 ?_
    refine R_istore hB (L' := [_, _, _, _, _]) dX8_quietOf_17 (Nat.le_of_ble_eq_true rfl) rfl ?_
    refine R_iconst hB dX8_quietOf_19 ?_
    refine R_istore hB (L' := [_, _, _, _, _, _]) dX8_quietOf_20 (Nat.le_of_ble_eq_true rfl) rfl ?_
    refine R_aload_n hB (j := 2) dX8_quietOf_22 rfl rfl ?_
    refine R_geti hB fl_X8_117 dX8_quietOf_23 rfl ?_
    refine R_istore hB (L' := [_, _, _, _, _, _, _]) dX8_quietOf_26 (Nat.le_of_ble_eq_true rfl) rfl ?_
    refine R_aload_n hB (j := 3) dX8_quietOf_28 rfl rfl ?_
    refine R_dup hB dX8_quietOf_29 rfl ?_
    refine R_geti hB fl_X8_117 dX8_quietOf_30 rfl ?_
    refine R_iconst hB dX8_quietOf_33 ?_
    refine R_iadd hB dX8_quietOf_34 ?_
    refine R_canon (fun hcn => ?_)
    refine N_puti hB fp_X8_117 dX8_quietOf_35 rfl (by rw [n7]; omega) (fun σa ea => ?_)
    refine R_aload_n hB (j := 3) dX8_quietOf_38 rfl rfl ?_
    refine R_getr hB (60) fl_X8_31 dX8_quietOf_39 rfl rfl ?_
    refine R_iload hB (j := 0) dX8_quietOf_42 rfl ?_
    refine R_iload_n hB (j := 4) dX8_quietOf_44 rfl rfl ?_
    refine N_iast hB rfl (by rw [n7]; omega) (by omega) dX8_quietOf_45 (fun σb eb => ?_)
    refine R_aload_n hB (j := 3) dX8_quietOf_46 rfl rfl ?_
    refine R_getr hB (61) fl_X8_34 dX8_quietOf_47 rfl rfl ?_
    refine R_iload hB (j := 0) dX8_quietOf_50 rfl ?_
    refine R_iload_n hB (j := 5) dX8_quietOf_52 rfl rfl ?_
    refine N_iast hB rfl (by rw [n7]; omega) (by omega) dX8_quietOf_53 (fun σc ec => ?_)
    have Q0 : QR σ1 σc (σ1 1 7) house sound := by
      refine ⟨fun i hi => ?_, fun k hk => ?_, fun j hj => ?_, fun j => ?_, fun j => ?_⟩
      · simp only [List.mem_cons, List.not_mem_nil, or_false, not_or] at hi
        rw [ec, up_row (by omega), eb, up_row (by omega), ea, up_row (by omega)]
      · rw [ec, up_i (by decide), eb, up_i (by decide), ea, up_n (by omega)]
      · rw [ec, up_i (by decide), eb, up_i (by decide), ea, up_i (by decide)]
      · rw [ec, up_i (by decide), eb]
        by_cases c : j = σ1 1 7
        · rw [if_pos c, c, up_s]
        · rw [if_neg c, up_n (by omega), ea, up_i (by decide)]
      · rw [ec]
        by_cases c : j = σ1 1 7
        · rw [if_pos c, c, up_s]
        · rw [if_neg c, up_n (by omega), eb, up_i (by decide), ea, up_i (by decide)]
    have C0 : σc 1 7 = σ1 1 7 + 1 := by rw [ec, up_i (by decide), eb, up_i (by decide), ea, up_s]
    refine R_iconst hB dX8_quietOf_54 ?_
    refine R_istore hB (L' := [_, _, _, _, _, _, _, _]) dX8_quietOf_55 (Nat.le_of_ble_eq_true rfl) rfl ?_
    have lp_57 : ∀ (n_57 : Nat) (mm fo g : Int) (σ2 : Mem), ((50 - g).toNat) < n_57 → (0 ≤ g ∧ g ≤ 50) → (QR σ1 σ2 (σ1 1 7) house sound) → (σ2 1 7 = σ1 1 7 + 1) → (mm = cnt (qtQ σ house sound) g.toNat) → (fo = nthB (qtQ σ house sound) i g.toNat) → Run Θ Γ 57 [(0, .ref (Th.r Θ 1)), (1, .int (I house)), (2, .int (I sound)), (3, .int (I i)), (4, .int (I mm)), (5, .int (I fo)), (6, .int (I (σ1 1 7))), (7, .int (I g))] [] σ2 := by
      intro n_57
      induction n_57 with
      | zero => intro mm fo g σ2 h_m; exact absurd h_m (Nat.not_lt_zero _)
      | succ n_57 ih_57 =>
        intro mm fo g σ2 h_m hg hQ hC hm hf
        have hmb := cnt_in (qtQ σ house sound) g.toNat
        rw [← hm] at hmb
        refine R_iload hB (j := 7) dX8_quietOf_57 rfl ?_
        refine R_bipush hB dX8_quietOf_59 rfl ?_
        refine R_icmp_ge hB 134 (by omega) (by omega) dX8_quietOf_61 rfl (fun h61 => ?_) (fun h61 => ?_)
        · refine R_aload_n hB (j := 0) dX8_quietOf_134 rfl rfl ?_
          refine R_iload hB (j := 6) dX8_quietOf_135 rfl ?_
          refine N_puti hB fp_X8_117 dX8_quietOf_137 rfl (by rw [n7]; omega) (fun σ5 e5 => ?_)
          have hg50 : g = 50 := by omega
          subst hg50
          have Q5 : QR σ1 σ5 (σ1 1 7) house sound := by
            obtain ⟨a1, a2, a3, a4, a5⟩ := hQ
            rw [e5]
            refine ⟨a1.tr (Same.up (by decide)) (fun _ q => q) (fun _ q => q), fun k hk => ?_, fun j hj => ?_, fun j => ?_, fun j => ?_⟩
            · rw [up_n (by omega)]; exact a2 k hk
            · rw [up_i (by decide)]; exact a3 j hj
            · rw [up_i (by decide)]; exact a4 j
            · rw [up_i (by decide)]; exact a5 j
          have B5 := Q5.back f2 f2.2.2.2.1 (by rw [e5, up_s])
          refine R_iload_n hB (j := 3) dX8_quietOf_140 rfl rfl ?_
          refine R_iconst hB dX8_quietOf_141 ?_
          refine R_icmp_ne hB 150 (by omega) (by omega) dX8_quietOf_142 rfl (fun h142 => ?_) (fun h142 => ?_)
          · refine R_iload hB (j := 5) dX8_quietOf_150 rfl ?_
            exact R_iret hB hE rfl dX8_quietOf_152 (by
              refine ⟨f1.tr B5.1, B5.2, ?_⟩
              unfold cQg
              rw [if_neg h10]
              first
              | (rw [if_pos h142]; exact hm)
              | (rw [if_neg h142]; exact hf))
          · refine R_iload hB (j := 4) dX8_quietOf_145 rfl ?_
            refine R_goto hB 152 dX8_quietOf_147 rfl ?_
            exact R_iret hB hE rfl dX8_quietOf_152 (by
              refine ⟨f1.tr B5.1, B5.2, ?_⟩
              unfold cQg
              rw [if_neg h10]
              first
              | (rw [if_pos h142]; exact hm)
              | (rw [if_neg h142]; exact hf))
        · refine R_aload_n hB (j := 0) dX8_quietOf_64 rfl rfl ?_
          refine R_getr hB (59) fl_X8_28 dX8_quietOf_65 rfl rfl ?_
          refine R_iload hB (j := 6) dX8_quietOf_68 rfl ?_
          refine R_iload hB (j := 7) dX8_quietOf_70 rfl ?_
          refine N_iast hB rfl (by rw [n7]; omega) (by omega) dX8_quietOf_72 (fun σ3 e3 => ?_)
          have Q3 : QR σ1 σ3 (σ1 1 7) house sound := by
            obtain ⟨a1, a2, a3, a4, a5⟩ := hQ
            rw [e3]
            refine ⟨a1.tr (Same.up (by decide)) (fun _ q => q) (fun _ q => q), fun k hk => ?_, fun j hj => ?_, fun j => ?_, fun j => ?_⟩
            · rw [up_i (by decide)]; exact a2 k hk
            · rw [up_n (by omega)]; exact a3 j hj
            · rw [up_i (by decide)]; exact a4 j
            · rw [up_i (by decide)]; exact a5 j
          have C3 : σ3 1 7 = σ1 1 7 + 1 := by rw [e3, up_i (by decide)]; exact hC
          have G3 : σ3 59 (σ1 1 7) = g := by rw [e3, up_s]
          refine R_aload_n hB (j := 0) dX8_quietOf_73 rfl rfl ?_
          refine R_cV0 hB (s_runs (QR.npre f2 f3 f4 Q3 f2.2.2.2.1 (by omega) C3 G3 (by omega) ha hb)) mv_X8_174 rfl rfl (by decide) dX8_quietOf_74 rfl rfl (Nat.le_of_ble_eq_true rfl) (fun σ4 h74 => ?_)
          have wv := quiet_w f2 f3 f4 Q3 f2.2.2.2.1 (by omega) C3 G3 (by omega) h74
          rw [mm_qtQ f1.1 hns.2] at wv
          have k62 : σ4 1 2 = σ 0 2 := by rw [h74.1 1 (by decide), Q3.2.1 2 (by decide), n2]
          have Q4 := Q3.ns h74.1
          have C4 : σ4 1 7 = σ1 1 7 + 1 := by rw [h74.1 1 (by decide)]; exact C3
          refine R_aload_n hB (j := 0) dX8_quietOf_77 rfl rfl ?_
          refine R_iload hB (j := 6) dX8_quietOf_78 rfl ?_
          refine P_cV1 hB (s_isProven _ (by rw [n7]; omega) (by rw [k62]; omega)) mv_X8_211 rfl rfl (by decide) dX8_quietOf_80 rfl rfl (Nat.le_of_ble_eq_true rfl) (fun z80 h80 => ?_)
          rw [wv] at h80
          have jn_91 : ∀ (x : Int), (x = if qtQ σ house sound g.toNat = true then 1 else 0) → Run Θ Γ 91 [(0, .ref (Th.r Θ 1)), (1, .int (I house)), (2, .int (I sound)), (3, .int (I i)), (4, .int (I mm)), (5, .int (I fo)), (6, .int (I (σ1 1 7))), (7, .int (I g))] [.int (I x)] σ4 := by
            intro x hx
            refine R_istore hB (L' := [_, _, _, _, _, _, _, _, _]) dX8_quietOf_91 (Nat.le_of_ble_eq_true rfl) rfl ?_
            refine R_iload hB (j := 0) dX8_quietOf_93 rfl ?_
            have jn_111 : ∀ (y : Int), (y = nthB (qtQ σ house sound) i (g + 1).toNat) → Run Θ Γ 111 [(0, .ref (Th.r Θ 1)), (1, .int (I house)), (2, .int (I sound)), (3, .int (I i)), (4, .int (I mm)), (5, .int (I fo)), (6, .int (I (σ1 1 7))), (7, .int (I g)), (8, .int (I x))] [.int (I y)] σ4 := by
              intro y hy
              refine R_istore hB (L' := [_, _, _, _, _, _, _, _, _]) dX8_quietOf_111 (Nat.le_of_ble_eq_true rfl) rfl ?_
              refine R_iload hB (j := 5) dX8_quietOf_113 rfl ?_
              refine R_iload hB (j := 8) dX8_quietOf_115 rfl ?_
              have jn_125 : ∀ (v : Int), (v = if qtQ σ house sound g.toNat = true then 1 else 0) → Run Θ Γ 125 [(0, .ref (Th.r Θ 1)), (1, .int (I house)), (2, .int (I sound)), (3, .int (I i)), (4, .int (I mm)), (5, .int (I y)), (6, .int (I (σ1 1 7))), (7, .int (I g)), (8, .int (I x))] [.int (I v), .int (I mm)] σ4 := by
                intro v hv
                refine R_iadd hB dX8_quietOf_125 ?_
                refine R_istore hB (L' := [_, _, _, _, _, _, _, _, _]) dX8_quietOf_126 (Nat.le_of_ble_eq_true rfl) rfl ?_
                refine R_iinc hB (j := 7) (L' := [_, _, _, _, _, _, _, _, _]) dX8_quietOf_128 rfl (Nat.le_of_ble_eq_true rfl) rfl ?_
                refine R_goto hB 57 dX8_quietOf_131 rfl ?_
                exact R_sub [2, 3, 4, 5, 1, 6, 7, 0] rfl (ih_57 _ _ _ _ (by omega) (by omega) Q4 C4 (by rw [cnt_kn _ hg.1, ← hm, hv]) hy)
              refine R_if_eq hB 124 (by rw [hx]; split <;> omega) dX8_quietOf_117 rfl (fun h117 => ?_) (fun h117 => ?_)
              · refine R_iconst hB dX8_quietOf_124 ?_
                exact R_sub [1, 2, 3, 4, 5, 0, 6, 7, 8] rfl (jn_125 _ (by
                  have hx2 : x = 0 ∨ x = 1 := by rw [hx]; split <;> omega
                  rw [← hx]; omega))
              · refine R_iconst hB dX8_quietOf_120 ?_
                refine R_goto hB 125 dX8_quietOf_121 rfl ?_
                exact R_sub [1, 2, 3, 4, 5, 0, 6, 7, 8] rfl (jn_125 _ (by
                  have hx2 : x = 0 ∨ x = 1 := by rw [hx]; split <;> omega
                  rw [← hx]; omega))
            refine R_if_eq hB 109 (by rw [hx]; split <;> omega) dX8_quietOf_95 rfl (fun h95 => ?_) (fun h95 => ?_)
            · refine R_iload hB (j := 6) dX8_quietOf_109 rfl ?_
              exact R_sub [1, 2, 3, 4, 5, 6, 7, 8, 0] rfl (jn_111 _ (by
                rw [nthB_k _ _ hg.1, ← hf]
                cases c : qtQ σ house sound g.toNat with
                | false => rw [if_neg (fun q => by cases q.1)]
                | true => rw [c] at hx; simp at hx; rw [if_neg (fun q => by have := q.2; omega)]))
            · refine R_iload hB (j := 5) dX8_quietOf_98 rfl ?_
              refine R_iload_n hB (j := 4) dX8_quietOf_100 rfl rfl ?_
              refine R_icmp_ne hB 109 (by omega) (by omega) dX8_quietOf_101 rfl (fun h101 => ?_) (fun h101 => ?_)
              · refine R_iload hB (j := 6) dX8_quietOf_109 rfl ?_
                exact R_sub [1, 2, 3, 4, 5, 6, 7, 8, 0] rfl (jn_111 _ (by
                  rw [nthB_k _ _ hg.1, ← hf]
                  cases c : qtQ σ house sound g.toNat with
                  | false => rw [if_neg (fun q => by cases q.1)]
                  | true => rw [c] at hx; simp at hx; rw [if_neg (fun q => by have := q.2; omega)]))
              · refine R_iload hB (j := 8) dX8_quietOf_104 rfl ?_
                refine R_goto hB 111 dX8_quietOf_106 rfl ?_
                exact R_sub [1, 2, 3, 4, 5, 6, 7, 8, 0] rfl (jn_111 _ (by
                  rw [nthB_k _ _ hg.1]
                  cases c : qtQ σ house sound g.toNat with
                  | true => rw [if_pos ⟨rfl, by omega⟩]
                  | false => rw [c] at hx; simp at hx; omega))
          refine R_if_ne hB 90 (by rw [h80]; split <;> omega) dX8_quietOf_83 rfl (fun h83 => ?_) (fun h83 => ?_)
          · refine R_iconst hB dX8_quietOf_90 ?_
            exact R_sub [0, 1, 2, 3, 4, 5, 6, 7] rfl (jn_91 _ (by
              cases c : qtQ σ house sound g.toNat with
              | false => rfl
              | true => rw [c] at h80; simp at h80; omega))
          · refine R_iconst hB dX8_quietOf_86 ?_
            refine R_goto hB 91 dX8_quietOf_87 rfl ?_
            exact R_sub [0, 1, 2, 3, 4, 5, 6, 7] rfl (jn_91 _ (by
              cases c : qtQ σ house sound g.toNat with
              | true => rfl
              | false => rw [c] at h80; simp at h80; omega))
    exact R_sub [4, 5, 6, 7, 3, 2, 1, 0] rfl (lp_57 _ _ _ _ _ (Nat.lt_succ_self _) (by omega) Q0 C0 rfl rfl)
  · rw [n7] at h10
    refine R_bipush hB dX8_quietOf_13 rfl ?_
    exact R_iret hB hE rfl dX8_quietOf_15 (⟨f1, f2, by unfold cQg; rw [if_pos h10]⟩)

theorem s_mquiet {Θ : Th} {σ : Mem} (house sound i : Int) (ha : rng house) (hb : rng sound) (hi : rng i) (h : InvC σ) (hR : Rel σ) : Spc Θ M_X8_quiet 1 [.ref (Th.r Θ 1), .int (I house), .int (I sound), .int (I i)] σ (fun r σ' => FrM σ σ' ∧ r = if (0 ≤ house ∧ house < 10) ∧ (0 ≤ sound ∧ sound < 4) ∧ (-1 ≤ i ∧ i < 50) then cQg σ house sound i else -2) := by
  refine Spc_of (by decide +kernel) (Nat.le_of_ble_eq_true rfl) (fun Γ hB hE => ?_)
  show Run Θ Γ 0 [(0, .ref (Th.r Θ 1)), (1, .int (I house)), (2, .int (I sound)), (3, .int (I i))] [] σ
  refine R_iload_n hB (j := 1) dX8_quiet_0 rfl rfl ?_
  refine R_iconst hB dX8_quiet_1 ?_
  refine R_bipush hB dX8_quiet_2 rfl ?_
  refine P_cS1 hB (s_in _ _ _ (by omega) (by omega) (by omega)) ms_X8_98 (by decide) dX8_quiet_4 rfl rfl (Nat.le_of_ble_eq_true rfl) (fun z4 h4 => ?_)
  refine R_if_eq hB 39 (by rw [h4]; split <;> omega) dX8_quiet_7 rfl (fun h7 => ?_) (fun h7 => ?_)
  · have hc : ¬ (0 ≤ house ∧ house ≤ 9) := fun q => by
      rw [if_pos q] at h4
      omega
    refine R_bipush hB dX8_quiet_39 rfl ?_
    exact R_iret hB hE rfl dX8_quiet_41 (by
      first
      | exact ⟨h33.1, by rw [if_pos (by omega)]; exact h33.2.2⟩
      | exact ⟨FrM.rf, by rw [if_neg (by omega)]⟩)
  · have hc : 0 ≤ house ∧ house ≤ 9 := by
      by_cases q : 0 ≤ house ∧ house ≤ 9
      · exact q
      · rw [if_neg q] at h4; omega
    refine R_iload_n hB (j := 2) dX8_quiet_10 rfl rfl ?_
    refine R_iconst hB dX8_quiet_11 ?_
    refine R_iconst hB dX8_quiet_12 ?_
    refine P_cS1 hB (s_in _ _ _ (by omega) (by omega) (by omega)) ms_X8_98 (by decide) dX8_quiet_13 rfl rfl (Nat.le_of_ble_eq_true rfl) (fun z13 h13 => ?_)
    refine R_if_eq hB 39 (by rw [h13]; split <;> omega) dX8_quiet_16 rfl (fun h16 => ?_) (fun h16 => ?_)
    · have hd : ¬ (0 ≤ sound ∧ sound ≤ 3) := fun q => by
        rw [if_pos q] at h13
        omega
      refine R_bipush hB dX8_quiet_39 rfl ?_
      exact R_iret hB hE rfl dX8_quiet_41 (by
        first
        | exact ⟨h33.1, by rw [if_pos (by omega)]; exact h33.2.2⟩
        | exact ⟨FrM.rf, by rw [if_neg (by omega)]⟩)
    · have hd : 0 ≤ sound ∧ sound ≤ 3 := by
        by_cases q : 0 ≤ sound ∧ sound ≤ 3
        · exact q
        · rw [if_neg q] at h13; omega
      refine R_iload_n hB (j := 3) dX8_quiet_19 rfl rfl ?_
      refine R_iconst hB dX8_quiet_20 ?_
      refine R_bipush hB dX8_quiet_21 rfl ?_
      refine P_cS1 hB (s_in _ _ _ (by omega) (by omega) (by omega)) ms_X8_98 (by decide) dX8_quiet_23 rfl rfl (Nat.le_of_ble_eq_true rfl) (fun z23 h23 => ?_)
      refine R_if_eq hB 39 (by rw [h23]; split <;> omega) dX8_quiet_26 rfl (fun h26 => ?_) (fun h26 => ?_)
      · have he : ¬ (-1 ≤ i ∧ i ≤ 49) := fun q => by
          rw [if_pos q] at h23
          omega
        refine R_bipush hB dX8_quiet_39 rfl ?_
        exact R_iret hB hE rfl dX8_quiet_41 (by
          first
          | exact ⟨h33.1, by rw [if_pos (by omega)]; exact h33.2.2⟩
          | exact ⟨FrM.rf, by rw [if_neg (by omega)]⟩)
      · have he : -1 ≤ i ∧ i ≤ 49 := by
          by_cases q : -1 ≤ i ∧ i ≤ 49
          · exact q
          · rw [if_neg q] at h23; omega
        refine R_aload_n hB (j := 0) dX8_quiet_29 rfl rfl ?_
        refine R_iload_n hB (j := 1) dX8_quiet_30 rfl rfl ?_
        refine R_iload_n hB (j := 2) dX8_quiet_31 rfl rfl ?_
        refine R_iload_n hB (j := 3) dX8_quiet_32 rfl rfl ?_
        refine R_cV1 hB (s_quietOf _ _ _ (by omega) (by omega) (by omega) h hR) mv_X8_214 rfl rfl (by decide) dX8_quiet_33 rfl rfl (Nat.le_of_ble_eq_true rfl) (fun z33 σ1 h33 => ?_)
        refine R_goto hB 41 dX8_quiet_36 rfl ?_
        exact R_iret hB hE rfl dX8_quiet_41 (by
          first
          | exact ⟨h33.1, by rw [if_pos (by omega)]; exact h33.2.2⟩
          | exact ⟨FrM.rf, by rw [if_neg (by omega)]⟩)
