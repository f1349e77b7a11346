theorem cFT_same {σ σ' : Mem} (hs : Same SC σ σ') {s : Nat} (h8 : s < 8) (d : Int) : cFT σ' s d = cFT σ s d := by
  unfold cFT
  rw [hs (8 + s) (by simp; omega), hs 33 (by decide), hs 34 (by decide), hs 35 (by decide), hs 2 (by decide)]
theorem cTS_same {σ σ' : Mem} (hs : Same SC σ σ') {s : Nat} (h8 : s < 8) (d : Int) : cTS σ' s d = cTS σ s d := by
  unfold cTS
  rw [hs (8 + s) (by simp; omega), hs 33 (by decide), hs 34 (by decide), hs 35 (by decide), hs 2 (by decide), hs 25 (by decide)]

theorem s_byAll {Θ : Th} {σ : Mem} (h : InvC σ) : Spc Θ M_X7_byAll 1 [.ref (Th.r Θ 0)] σ (fun r σ' => Same SC σ σ' ∧ r = if σ 0 2 = 0 then -1 else nthB (allS σ (σ 0 2).toNat) 0 (σ 2 4).toNat) := by
  refine Spc_of (by decide +kernel) (Nat.le_of_ble_eq_true rfl) (fun Γ hB hE => ?_)
  show Run Θ Γ 0 [(0, .ref (Th.r Θ 0))] [] σ
  have hns := h.ns
  have hw := h.row
  have hn := hw.1
  have hr := h.2.2.2.1
  refine R_aload_n hB (j := 0) dX7_byAll_0 rfl rfl ?_
  refine R_geti hB fl_X7_118 dX7_byAll_1 rfl ?_
  refine R_if_ne hB 9 (by omega) dX7_byAll_4 rfl (fun h4 => ?_) (fun h4 => ?_)
  · refine R_iconst hB dX7_byAll_9 ?_
    refine R_aload_n hB (j := 0) dX7_byAll_10 rfl rfl ?_
    refine R_getr hB (2) fl_X7_24 dX7_byAll_11 rfl rfl ?_
    refine R_geti hB fl_X7_140 dX7_byAll_14 rfl ?_
    have hp2 := p2_256 (σ 2 4).toNat (by omega)
    have hp0 := p2_pos (σ 2 4).toNat
    refine R_ishl hB (2 ^ (σ 2 4).toNat) (i_shl1z (by omega)) dX7_byAll_17 ?_
    refine R_iconst hB dX7_byAll_18 ?_
    refine R_isub hB dX7_byAll_19 ?_
    refine R_istore_n hB (L' := [_, _]) dX7_byAll_20 rfl (Nat.le_of_ble_eq_true rfl) rfl ?_
    refine R_iconst hB dX7_byAll_21 ?_
    refine R_istore_n hB (L' := [_, _, _]) dX7_byAll_22 rfl (Nat.le_of_ble_eq_true rfl) rfl ?_
    have lp_23 : ∀ (n_23 : Nat) (se s : Int) (σ2 : Mem), ((σ 0 2 - s).toNat) < n_23 → (0 ≤ s ∧ s ≤ σ 0 2) → (Same SC σ σ2) → (se = bsum (allS σ s.toNat) (σ 2 4).toNat) → Run Θ Γ 23 [(0, .ref (Th.r Θ 0)), (1, .int (I se)), (2, .int (I s))] [] σ2 := by
      intro n_23
      induction n_23 with
      | zero => intro se s σ2 h_m; exact absurd h_m (Nat.not_lt_zero _)
      | succ n_23 ih_23 =>
        intro se s σ2 h_m hs hS hb
        have k0 : σ2 0 = σ 0 := hS 0 (by decide)
        have k2 : σ2 2 = σ 2 := hS 2 (by decide)
        refine R_iload_n hB (j := 2) dX7_byAll_23 rfl rfl ?_
        refine R_aload_n hB (j := 0) dX7_byAll_24 rfl rfl ?_
        refine R_geti hB fl_X7_118 dX7_byAll_25 rfl ?_
        refine R_icmp_ge hB 45 (by omega) (by rw [k0]; omega) dX7_byAll_28 rfl (fun h28 => ?_) (fun h28 => ?_)
        · rw [k0] at h28
          have hsn : s.toNat = (σ 0 2).toNat := by omega
          rw [hsn] at hb
          have hbs := bsum_in (allS σ (σ 0 2).toNat) (σ 2 4).toNat
          refine R_iconst hB dX7_byAll_45 ?_
          refine R_istore_n hB (L' := [_, _, _]) dX7_byAll_46 rfl (Nat.le_of_ble_eq_true rfl) rfl ?_
          have lp_47 : ∀ (n_47 : Nat) (d : Int), ((σ 2 4 - d).toNat) < n_47 → (0 ≤ d ∧ d ≤ σ 2 4) → (∀ j : Nat, (j : Int) < d → allS σ (σ 0 2).toNat j = false) → Run Θ Γ 47 [(0, .ref (Th.r Θ 0)), (1, .int (I se)), (2, .int (I d))] [] σ2 := by
            intro n_47
            induction n_47 with
            | zero => intro d h_m; exact absurd h_m (Nat.not_lt_zero _)
            | succ n_47 ih_47 =>
              intro d h_m hd hno
              refine R_iload_n hB (j := 2) dX7_byAll_47 rfl rfl ?_
              refine R_aload_n hB (j := 0) dX7_byAll_48 rfl rfl ?_
              refine R_getr hB (2) fl_X7_24 dX7_byAll_49 rfl rfl ?_
              refine R_geti hB fl_X7_140 dX7_byAll_52 rfl ?_
              refine R_icmp_ge hB 74 (by omega) (by rw [k2]; omega) dX7_byAll_55 rfl (fun h55 => ?_) (fun h55 => ?_)
              · rw [k2] at h55
                refine R_iconst hB dX7_byAll_74 ?_
                exact R_iret hB hE rfl dX7_byAll_75 (⟨hS, by rw [if_neg h4, nth_none0 (fun j hj => hno j (by omega))]⟩)
              · rw [k2] at h55
                refine R_iload_n hB (j := 1) dX7_byAll_58 rfl rfl ?_
                refine R_iload_n hB (j := 2) dX7_byAll_59 rfl rfl ?_
                refine R_ishr hB ((se) / 2 ^ (d).toNat) (i_shr (by rw [hb]; omega) (by omega)) dX7_byAll_60 ?_
                refine R_iconst hB dX7_byAll_61 ?_
                have hbit : se / 2 ^ d.toNat % 2 = if allS σ (σ 0 2).toNat d.toNat = true then 1 else 0 := by rw [hb]; exact bsum_bit _ (by omega)
                refine R_iand hB (((se) / 2 ^ (d).toNat) % 2) i_and1 dX7_byAll_62 ?_
                refine R_if_eq hB 68 (by omega) dX7_byAll_63 rfl (fun h63 => ?_) (fun h63 => ?_)
                · refine R_iinc hB (j := 2) (L' := [_, _, _]) dX7_byAll_68 rfl (Nat.le_of_ble_eq_true rfl) rfl ?_
                  refine R_goto hB 47 dX7_byAll_71 rfl ?_
                  exact R_sub [1, 2, 0] rfl (ih_47 _ (by omega) (by omega) (fun j hj => by
                    by_cases c : (j : Int) = d
                    · have cj : j = d.toNat := by omega
                      subst cj
                      cases q : allS σ (σ 0 2).toNat d.toNat with
                      | false => rfl
                      | true => rw [q] at hbit; simp at hbit; omega
                    · exact hno j (by omega)))
                · refine R_iload_n hB (j := 2) dX7_byAll_66 rfl rfl ?_
                  exact R_iret hB hE rfl dX7_byAll_67 (⟨hS, by rw [if_neg h4, nth_0 (k := d.toNat) (by omega) (fun j hj => hno j (by omega)) (by by_cases q : allS σ (σ 0 2).toNat d.toNat = true; exact q; exact absurd (by rw [hbit, if_neg q]) h63)]; omega⟩)
          exact R_sub [1, 2, 0] rfl (lp_47 _ _ (Nat.lt_succ_self _) (by omega) (fun j hj => by omega))
        · rw [k0] at h28
          have hI := h.same hS
          refine R_iload_n hB (j := 1) dX7_byAll_31 rfl rfl ?_
          refine R_aload_n hB (j := 0) dX7_byAll_32 rfl rfl ?_
          refine R_iload_n hB (j := 2) dX7_byAll_33 rfl rfl ?_
          refine R_cV1 hB (s_seenBy s (by rw [k0]; omega) hI) mv_X7_205 rfl rfl (by decide) dX7_byAll_34 rfl rfl (Nat.le_of_ble_eq_true rfl) (fun z34 σ1 h34 => ?_)
          obtain ⟨c1, c2⟩ := h34
          simp only [k2, cFT_same hS (show s.toNat < 8 by omega)] at c2
          refine R_iand hB (bsum (allS σ (s.toNat + 1)) (σ 2 4).toNat) (by rw [hb, c2, i_and_bsum _ _ (by omega)]; rfl) dX7_byAll_37 ?_
          refine R_istore_n hB (L' := [_, _, _]) dX7_byAll_38 rfl (Nat.le_of_ble_eq_true rfl) rfl ?_
          refine R_iinc hB (j := 2) (L' := [_, _, _]) dX7_byAll_39 rfl (Nat.le_of_ble_eq_true rfl) rfl ?_
          refine R_goto hB 23 dX7_byAll_42 rfl ?_
          exact R_sub [2, 1, 0] rfl (ih_23 _ _ _ (by omega) (by omega) (hS.tr c1 (fun _ q => q) (fun _ q => q)) (by rw [show (s + 1).toNat = s.toNat + 1 by omega]))
    exact R_sub [2, 1, 0] rfl (lp_23 _ _ _ _ (Nat.lt_succ_self _) (by omega) Same.rf (by rw [show (0 : Int).toNat = 0 from rfl]; exact (bsum_all _).symm))
  · refine R_iconst hB dX7_byAll_7 ?_
    exact R_iret hB hE rfl dX7_byAll_8 (⟨Same.rf, by rw [if_pos h4]⟩)

theorem s_testifyingIn {Θ : Th} {σ : Mem} (hour : Int) (hh : 0 ≤ hour ∧ hour < 50) (hns : 0 ≤ σ 0 2 ∧ σ 0 2 ≤ 8) (hb : ∀ s, 0 ≤ s → s < σ 0 2 → 0 ≤ σ 26 s ∧ σ 26 s < 1125899906842624) : Spc Θ M_X7_testifyingIn 1 [.ref (Th.r Θ 0), .int (I hour)] σ (Pu σ (fun z => z = cnt (fun s : Nat => decide (σ 26 (s : Int) / 2 ^ hour.toNat % 2 = 1)) (σ 0 2).toNat)) := by
  refine Spc_of (by decide +kernel) (Nat.le_of_ble_eq_true rfl) (fun Γ hB hE => ?_)
  show Run Θ Γ 0 [(0, .ref (Th.r Θ 0)), (1, .int (I hour))] [] σ
  refine R_iconst hB dX7_testifyingIn_0 ?_
  refine R_istore_n hB (L' := [_, _, _]) dX7_testifyingIn_1 rfl (Nat.le_of_ble_eq_true rfl) rfl ?_
  refine R_iconst hB dX7_testifyingIn_2 ?_
  refine R_istore_n hB (L' := [_, _, _, _]) dX7_testifyingIn_3 rfl (Nat.le_of_ble_eq_true rfl) rfl ?_
  have lp_4 : ∀ (n_4 : Nat) (k s : Int), ((σ 0 2 - s).toNat) < n_4 → (0 ≤ s ∧ s ≤ σ 0 2) → (k = cnt (fun s : Nat => decide (σ 26 (s : Int) / 2 ^ hour.toNat % 2 = 1)) s.toNat) → Run Θ Γ 4 [(0, .ref (Th.r Θ 0)), (1, .int (I hour)), (2, .int (I k)), (3, .int (I s))] [] σ := by
    intro n_4
    induction n_4 with
    | zero => intro k s h_m; exact absurd h_m (Nat.not_lt_zero _)
    | succ n_4 ih_4 =>
      intro k s h_m hs hm
      refine R_iload_n hB (j := 3) dX7_testifyingIn_4 rfl rfl ?_
      refine R_aload_n hB (j := 0) dX7_testifyingIn_5 rfl rfl ?_
      refine R_geti hB fl_X7_118 dX7_testifyingIn_6 rfl ?_
      refine R_icmp_ge hB 32 (by omega) (by omega) dX7_testifyingIn_9 rfl (fun h9 => ?_) (fun h9 => ?_)
      · refine R_iload_n hB (j := 2) dX7_testifyingIn_32 rfl rfl ?_
        exact R_iret hB hE rfl dX7_testifyingIn_33 (⟨rfl, by rw [hm]; congr 1; omega⟩)
      · refine R_iload_n hB (j := 2) dX7_testifyingIn_12 rfl rfl ?_
        refine R_aload_n hB (j := 0) dX7_testifyingIn_13 rfl rfl ?_
        refine R_getr hB (26) fl_X7_67 dX7_testifyingIn_14 rfl rfl ?_
        refine R_iload_n hB (j := 3) dX7_testifyingIn_17 rfl rfl ?_
        refine R_lald hB rfl (by omega) dX7_testifyingIn_18 ?_
        refine R_iload_n hB (j := 1) dX7_testifyingIn_19 rfl rfl ?_
        have hbs := hb s (by omega) (by omega)
        have hd0 : 0 ≤ σ 26 s / 2 ^ hour.toNat := Int.ediv_nonneg hbs.1 (Int.le_of_lt (p2_pos _))
        have hd1 : σ 26 s / 2 ^ hour.toNat ≤ σ 26 s := Int.ediv_le_self _ hbs.1
        refine R_lshr hB ((σ 26 (s)) / 2 ^ (hour).toNat) (j_shr (by omega) (by omega)) dX7_testifyingIn_20 ?_
        refine R_lconst hB (z := 1) dX7_testifyingIn_21 rfl ?_
        refine R_land hB (((σ 26 (s)) / 2 ^ (hour).toNat) % 2) (j_and1 (by omega)) dX7_testifyingIn_22 ?_
        refine R_l2i hB dX7_testifyingIn_23 ?_
        refine R_iadd hB dX7_testifyingIn_24 ?_
        refine R_istore_n hB (L' := [_, _, _, _]) dX7_testifyingIn_25 rfl (Nat.le_of_ble_eq_true rfl) rfl ?_
        refine R_iinc hB (j := 3) (L' := [_, _, _, _]) dX7_testifyingIn_26 rfl (Nat.le_of_ble_eq_true rfl) rfl ?_
        refine R_goto hB 4 dX7_testifyingIn_29 rfl ?_
        exact R_sub [2, 3, 1, 0] rfl (ih_4 _ _ (by omega) (by omega) (by
          rw [show (s + 1).toNat = s.toNat + 1 by omega]
          simp only [cnt, decide_eq_true_eq, show ((s.toNat : Nat) : Int) = s by omega]
          rw [← hm]
          split <;> omega))
  exact R_sub [2, 3, 1, 0] rfl (lp_4 _ _ _ (Nat.lt_succ_self _) (by omega) rfl)

theorem s_quiet {Θ : Th} {σ : Mem} (house sound i : Int) (hho : rng house) (hso : rng sound) (hi : rng i) (h : InvC σ) : Spc Θ M_X7_quiet 1 [.ref (Th.r Θ 0), .int (I house), .int (I sound), .int (I i)] σ (fun r σ' => Same SC σ σ' ∧ r = if (0 ≤ house ∧ house < 10) ∧ (0 ≤ sound ∧ sound < 4) ∧ (-1 ≤ i ∧ i < 50) then (if σ 2 4 = 8 then -3 else if i = -1 then cnt (qtQ σ house sound) 50 else nthB (qtQ σ house sound) i 50) else -2) := by
  refine Spc_of (by decide +kernel) (Nat.le_of_ble_eq_true rfl) (fun Γ hB hE => ?_)
  show Run Θ Γ 0 [(0, .ref (Th.r Θ 0)), (1, .int (I house)), (2, .int (I sound)), (3, .int (I i))] [] σ
  have hns := h.ns
  have hw := h.row
  have hn := hw.1
  have hr := h.2.2.2.1
  have hr2 := hr.2.2
  refine R_iload_n hB (j := 1) dX7_quiet_0 rfl rfl ?_
  refine R_bipush hB dX7_quiet_1 rfl ?_
  refine P_cS1 hB (s_within _ _ (by omega) (by omega)) ms_X7_89 (by decide) dX7_quiet_3 rfl rfl (Nat.le_of_ble_eq_true rfl) (fun z3 h3 => ?_)
  refine R_if_eq hB 31 (by rw [h3]; split <;> omega) dX7_quiet_6 rfl (fun h6 => ?_) (fun h6 => ?_)
  · have hno : ¬ ((0 ≤ house ∧ house < 10) ∧ (0 ≤ sound ∧ sound < 4) ∧ (-1 ≤ i ∧ i < 50)) := by split at h3 <;> omega
    refine R_bipush hB dX7_quiet_31 rfl ?_
    exact R_iret hB hE rfl dX7_quiet_33 (⟨Same.rf, by rw [if_neg hno]⟩)
  · have hy1 : 0 ≤ house ∧ house < 10 := by split at h3 <;> omega
    refine R_iload_n hB (j := 2) dX7_quiet_9 rfl rfl ?_
    refine R_iconst hB dX7_quiet_10 ?_
    refine P_cS1 hB (s_within _ _ (by omega) (by omega)) ms_X7_89 (by decide) dX7_quiet_11 rfl rfl (Nat.le_of_ble_eq_true rfl) (fun z11 h11 => ?_)
    refine R_if_eq hB 31 (by rw [h11]; split <;> omega) dX7_quiet_14 rfl (fun h14 => ?_) (fun h14 => ?_)
    · have hno : ¬ ((0 ≤ house ∧ house < 10) ∧ (0 ≤ sound ∧ sound < 4) ∧ (-1 ≤ i ∧ i < 50)) := by split at h11 <;> omega
      refine R_bipush hB dX7_quiet_31 rfl ?_
      exact R_iret hB hE rfl dX7_quiet_33 (⟨Same.rf, by rw [if_neg hno]⟩)
    · have hy2 : 0 ≤ sound ∧ sound < 4 := by split at h11 <;> omega
      have jn_34 : ∀ (_ : Unit), (-1 ≤ i ∧ i < 50) → Run Θ Γ 34 [(0, .ref (Th.r Θ 0)), (1, .int (I house)), (2, .int (I sound)), (3, .int (I i))] [] σ := by
        intro _ hy3
        refine R_aload_n hB (j := 0) dX7_quiet_34 rfl rfl ?_
        refine R_getr hB (2) fl_X7_24 dX7_quiet_35 rfl rfl ?_
        refine R_geti hB fl_X7_140 dX7_quiet_38 rfl ?_
        refine R_bipush hB dX7_quiet_41 rfl ?_
        refine R_icmp_lt hB 49 (by omega) (by omega) dX7_quiet_43 rfl (fun h43 => ?_) (fun h43 => ?_)
        · refine R_iconst hB dX7_quiet_49 ?_
          refine R_istore hB (L' := [_, _, _, _, _]) dX7_quiet_50 (Nat.le_of_ble_eq_true rfl) rfl ?_
          have lp_52 : ∀ (n_52 : Nat) (s : Int) (σ2 : Mem), ((σ 0 2 - s).toNat) < n_52 → (0 ≤ s ∧ s ≤ σ 0 2) → (Same SC σ σ2) → (∀ j : Nat, (j : Int) < s → σ2 26 j = bsum (qtB (σ (8 + j)) (σ 33) (σ 34) (σ 35) (σ 2 4).toNat (loudOf (σ (8 + j) 0) house sound) (σ 25 0) (σ 25 1)) 50) → Run Θ Γ 52 [(0, .ref (Th.r Θ 0)), (1, .int (I house)), (2, .int (I sound)), (3, .int (I i)), (4, .int (I s))] [] σ2 := by
            intro n_52
            induction n_52 with
            | zero => intro s σ2 h_m; exact absurd h_m (Nat.not_lt_zero _)
            | succ n_52 ih_52 =>
              intro s σ2 h_m hs hS hq
              have k0 : σ2 0 = σ 0 := hS 0 (by decide)
              have k2 : σ2 2 = σ 2 := hS 2 (by decide)
              have k25 : σ2 25 = σ 25 := hS 25 (by decide)
              have k33 : σ2 33 = σ 33 := hS 33 (by decide)
              have k34 : σ2 34 = σ 34 := hS 34 (by decide)
              have k35 : σ2 35 = σ 35 := hS 35 (by decide)
              have k36 : σ2 36 = σ 36 := hS 36 (by decide)
              refine R_iload hB (j := 4) dX7_quiet_52 rfl ?_
              refine R_aload_n hB (j := 0) dX7_quiet_54 rfl rfl ?_
              refine R_geti hB fl_X7_118 dX7_quiet_55 rfl ?_
              refine R_icmp_ge hB 98 (by omega) (by rw [k0]; omega) dX7_quiet_58 rfl (fun h58 => ?_) (fun h58 => ?_)
              · rw [k0] at h58
                have hsn : s = σ 0 2 := by omega
                subst hsn
                refine R_iconst hB dX7_quiet_98 ?_
                refine R_istore hB (L' := [_, _, _, _, _]) dX7_quiet_99 (Nat.le_of_ble_eq_true rfl) rfl ?_
                refine R_iconst hB dX7_quiet_101 ?_
                refine R_istore hB (L' := [_, _, _, _, _, _]) dX7_quiet_102 (Nat.le_of_ble_eq_true rfl) rfl ?_
                have lp_104 : ∀ (n_104 : Nat) (mn hh : Int), ((50 - hh).toNat) < n_104 → (0 ≤ hh ∧ hh ≤ 50) → (mn = cnt (qtQ σ house sound) hh.toNat) → (0 ≤ mn ∧ mn ≤ hh) → (∀ k : Nat, (k : Int) < hh → ¬ ((qtQ σ house sound) k = true ∧ cnt (qtQ σ house sound) k = i)) → Run Θ Γ 104 [(0, .ref (Th.r Θ 0)), (1, .int (I house)), (2, .int (I sound)), (3, .int (I i)), (4, .int (I mn)), (5, .int (I hh))] [] σ2 := by
                  intro n_104
                  induction n_104 with
                  | zero => intro mn hh h_m; exact absurd h_m (Nat.not_lt_zero _)
                  | succ n_104 ih_104 =>
                    intro mn hh h_m hhh hmn hmb hnn
                    refine R_iload hB (j := 5) dX7_quiet_104 rfl ?_
                    refine R_bipush hB dX7_quiet_106 rfl ?_
                    refine R_icmp_ge hB 144 (by omega) (by omega) dX7_quiet_108 rfl (fun h108 => ?_) (fun h108 => ?_)
                    · refine R_iload_n hB (j := 3) dX7_quiet_144 rfl rfl ?_
                      refine R_iconst hB dX7_quiet_145 ?_
                      refine R_icmp_ne hB 154 (by omega) (by omega) dX7_quiet_146 rfl (fun h146 => ?_) (fun h146 => ?_)
                      · refine R_iconst hB dX7_quiet_154 ?_
                        exact R_iret hB hE rfl dX7_quiet_155 (⟨hS, by
                          rw [if_pos ⟨hy1, hy2, hy3⟩, if_neg (by omega)]
                          have h50 : hh.toNat = 50 := by omega
                          rw [h50] at hmn
                          first | (rw [if_pos h146]; exact hmn) | (rw [if_neg h146, nthB_none (fun k hk q => hnn k (by omega) q)])⟩)
                      · refine R_iload hB (j := 4) dX7_quiet_149 rfl ?_
                        refine R_goto hB 155 dX7_quiet_151 rfl ?_
                        exact R_iret hB hE rfl dX7_quiet_155 (⟨hS, by
                          rw [if_pos ⟨hy1, hy2, hy3⟩, if_neg (by omega)]
                          have h50 : hh.toNat = 50 := by omega
                          rw [h50] at hmn
                          first | (rw [if_pos h146]; exact hmn) | (rw [if_neg h146, nthB_none (fun k hk q => hnn k (by omega) q)])⟩)
                    · refine R_aload_n hB (j := 0) dX7_quiet_111 rfl rfl ?_
                      refine R_iload hB (j := 5) dX7_quiet_112 rfl ?_
                      refine P_cV1 hB (s_testifyingIn hh (by omega) (by rw [k0]; exact hns) (fun s q1 q2 => by rw [k0] at q2; have := hq s.toNat (by omega); rw [show ((s.toNat : Nat) : Int) = s by omega] at this; rw [this]; exact bsum_lt50 _)) mv_X7_211 rfl rfl (by decide) dX7_quiet_114 rfl rfl (Nat.le_of_ble_eq_true rfl) (fun z114 h114 => ?_)
                      rw [k0] at h114
                      have hN : z114 = qtN σ house sound hh.toNat := by
                        rw [h114]
                        refine cnt_cg (fun s hs => ?_)
                        rw [hq s (by omega), bsum_bit _ (by omega)]
                        cases qtB (σ (8 + s)) (σ 33) (σ 34) (σ 35) (σ 2 4).toNat (loudOf (σ (8 + s) 0) house sound) (σ 25 0) (σ 25 1) hh.toNat <;> simp
                      have hNb := cnt_in (fun s : Nat => qtB (σ (8 + s)) (σ 33) (σ 34) (σ 35) (σ 2 4).toNat (loudOf (σ (8 + s) 0) house sound) (σ 25 0) (σ 25 1) hh.toNat) (σ 0 2).toNat
                      have hNb : 0 ≤ qtN σ house sound hh.toNat ∧ qtN σ house sound hh.toNat ≤ (σ 0 2).toNat := hNb
                      rw [← hN] at hNb
                      refine R_aload_n hB (j := 0) dX7_quiet_117 rfl rfl ?_
                      refine R_getr hB (25) fl_X7_28 dX7_quiet_118 rfl rfl ?_
                      refine R_iconst hB dX7_quiet_121 ?_
                      refine R_iald hB rfl (by omega) dX7_quiet_122 ?_
                      refine R_icmp_ge hB 138 (by omega) (by rw [k25]; omega) dX7_quiet_123 rfl (fun h123 => ?_) (fun h123 => ?_)
                      · rw [k25] at h123
                        have hp : (qtQ σ house sound) hh.toNat = false := by simp only [qtQ, decide_eq_false_iff_not]; omega
                        refine R_iinc hB (j := 5) (L' := [_, _, _, _, _, _]) dX7_quiet_138 rfl (Nat.le_of_ble_eq_true rfl) rfl ?_
                        refine R_goto hB 104 dX7_quiet_141 rfl ?_
                        exact R_sub [1, 2, 3, 4, 5, 0] rfl (ih_104 _ _ (by omega) (by omega) (by rw [show (hh + 1).toNat = hh.toNat + 1 by omega]; simp only [cnt]; rw [hp, ← hmn]; simp) (by omega) (fun k hk q => by
                          by_cases c : (k : Int) = hh
                          · have ck : k = hh.toNat := by omega
                            subst ck
                            first | (rw [hp] at q; exact absurd q.1 (by decide)) | (rw [← hmn] at q; exact h129 q.2)
                          · exact hnn k (by omega) q))
                      · rw [k25] at h123
                        have hp : (qtQ σ house sound) hh.toNat = true := by simp only [qtQ, decide_eq_true_eq]; omega
                        refine R_iload hB (j := 4) dX7_quiet_126 rfl ?_
                        refine R_iload_n hB (j := 3) dX7_quiet_128 rfl rfl ?_
                        refine R_icmp_ne hB 135 (by omega) (by omega) dX7_quiet_129 rfl (fun h129 => ?_) (fun h129 => ?_)
                        · refine R_iinc hB (j := 4) (L' := [_, _, _, _, _, _]) dX7_quiet_135 rfl (Nat.le_of_ble_eq_true rfl) rfl ?_
                          refine R_iinc hB (j := 5) (L' := [_, _, _, _, _, _]) dX7_quiet_138 rfl (Nat.le_of_ble_eq_true rfl) rfl ?_
                          refine R_goto hB 104 dX7_quiet_141 rfl ?_
                          exact R_sub [2, 3, 4, 5, 1, 0] rfl (ih_104 _ _ (by omega) (by omega) (by rw [show (hh + 1).toNat = hh.toNat + 1 by omega]; simp only [cnt]; rw [hp, ← hmn]; simp) (by omega) (fun k hk q => by
                            by_cases c : (k : Int) = hh
                            · have ck : k = hh.toNat := by omega
                              subst ck
                              first | (rw [hp] at q; exact absurd q.1 (by decide)) | (rw [← hmn] at q; exact h129 q.2)
                            · exact hnn k (by omega) q))
                        · refine R_iload hB (j := 5) dX7_quiet_132 rfl ?_
                          exact R_iret hB hE rfl dX7_quiet_134 (⟨hS, by rw [if_pos ⟨hy1, hy2, hy3⟩, if_neg (by omega), if_neg (by omega)]; have hl := nthB_late (i := i) hp (by omega) (50 - (hh.toNat + 1)); rw [show hh.toNat + 1 + (50 - (hh.toNat + 1)) = 50 by omega] at hl; rw [hl]; omega⟩)
                exact R_sub [2, 3, 4, 5, 1, 0] rfl (lp_104 _ _ _ (Nat.lt_succ_self _) (by omega) rfl (by omega) (fun k hk => by omega))
              · rw [k0] at h58
                have k8 : σ2 (8 + s.toNat) = σ (8 + s.toNat) := hS _ (by simp; omega)
                refine R_aload_n hB (j := 0) dX7_quiet_61 rfl rfl ?_
                refine R_getr hB (26) fl_X7_67 dX7_quiet_62 rfl rfl ?_
                refine R_iload hB (j := 4) dX7_quiet_65 rfl ?_
                refine R_aload_n hB (j := 0) dX7_quiet_67 rfl rfl ?_
                refine R_getr hB (5) fl_X7_56 dX7_quiet_68 rfl rfl ?_
                refine R_aload_n hB (j := 0) dX7_quiet_71 rfl rfl ?_
                refine R_getr hB (23) fl_X7_17 dX7_quiet_72 rfl rfl ?_
                refine R_iload hB (j := 4) dX7_quiet_75 rfl ?_
                refine R_aald hB (8 + (s).toNat) rfl (by decide) (by omega) rfl dX7_quiet_77 ?_
                refine R_aload_n hB (j := 0) dX7_quiet_78 rfl rfl ?_
                refine R_getr hB (2) fl_X7_24 dX7_quiet_79 rfl rfl ?_
                refine R_iload_n hB (j := 1) dX7_quiet_82 rfl rfl ?_
                refine R_iload_n hB (j := 2) dX7_quiet_83 rfl rfl ?_
                refine R_aload_n hB (j := 0) dX7_quiet_84 rfl rfl ?_
                refine R_getr hB (25) fl_X7_28 dX7_quiet_85 rfl rfl ?_
                refine R_cV2 hB (s_hoursFor house sound (by omega) hy2 (8 + s.toNat) (cls_bed (by omega)) (by rw [k8]; exact h.bed (by omega)) (by rw [k33, k34, k35, k36, k2]; exact hw) (by rw [k25]; exact hr)) mv_X7_208 rfl rfl (by decide) dX7_quiet_88 rfl rfl (Nat.le_of_ble_eq_true rfl) (fun z88 σ3 h88 => ?_)
                rw [k8, k33, k34, k35, k2, k25] at h88
                obtain ⟨c1, c2⟩ := h88
                have hb5 := bsum_lt50 (qtB (σ (8 + s.toNat)) (σ 33) (σ 34) (σ 35) (σ 2 4).toNat (loudOf (σ (8 + s.toNat) 0) house sound) (σ 25 0) (σ 25 1))
                rw [← c2] at hb5
                refine N_last hB rfl (by decide) (by omega) (by omega) dX7_quiet_91 (fun σ4 e4 => ?_)
                refine R_iinc hB (j := 4) (L' := [_, _, _, _, _]) dX7_quiet_92 rfl (Nat.le_of_ble_eq_true rfl) rfl ?_
                refine R_goto hB 52 dX7_quiet_95 rfl ?_
                exact R_sub [1, 2, 3, 4, 0] rfl (ih_52 _ _ (by omega) (by omega) ((hS.tr c1 (fun _ q => q) (by simp)).tr (S' := SC) (by rw [e4]; exact Same.up (by decide)) (fun _ q => q) (fun _ q => q)) (fun j hj => by
                  rw [e4]
                  by_cases c : (j : Int) = s
                  · have cj : j = s.toNat := by omega
                    subst cj
                    rw [c, up_s, c2]
                  · rw [up_n (fun q => c q.2), c1 26 (by decide)]
                    exact hq j (by omega)))
          exact R_sub [1, 2, 3, 4, 0] rfl (lp_52 _ _ _ (Nat.lt_succ_self _) (by omega) Same.rf (fun j hj => by omega))
        · refine R_bipush hB dX7_quiet_46 rfl ?_
          exact R_iret hB hE rfl dX7_quiet_48 (⟨Same.rf, by rw [if_pos ⟨hy1, hy2, hy3⟩, if_pos (by omega)]⟩)
      refine R_iload_n hB (j := 3) dX7_quiet_17 rfl rfl ?_
      refine R_iconst hB dX7_quiet_18 ?_
      refine R_icmp_eq hB 34 (by omega) (by omega) dX7_quiet_19 rfl (fun h19 => ?_) (fun h19 => ?_)
      · exact R_sub [0, 1, 2, 3] rfl (jn_34 () (by omega))
      · refine R_iload_n hB (j := 3) dX7_quiet_22 rfl rfl ?_
        refine R_bipush hB dX7_quiet_23 rfl ?_
        refine P_cS1 hB (s_within _ _ (by omega) (by omega)) ms_X7_89 (by decide) dX7_quiet_25 rfl rfl (Nat.le_of_ble_eq_true rfl) (fun z25 h25 => ?_)
        refine R_if_ne hB 34 (by rw [h25]; split <;> omega) dX7_quiet_28 rfl (fun h28 => ?_) (fun h28 => ?_)
        · exact R_sub [0, 1, 2, 3] rfl (jn_34 () (by split at h25 <;> omega))
        · have hno : ¬ ((0 ≤ house ∧ house < 10) ∧ (0 ≤ sound ∧ sound < 4) ∧ (-1 ≤ i ∧ i < 50)) := by split at h25 <;> omega
          refine R_bipush hB dX7_quiet_31 rfl ?_
          exact R_iret hB hE rfl dX7_quiet_33 (⟨Same.rf, by rw [if_neg hno]⟩)
