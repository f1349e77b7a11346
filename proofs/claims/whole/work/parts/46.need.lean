theorem s_bitOf {Θ : Th} {σ : Mem} (bits i : Int) (hb : 0 ≤ bits ∧ bits < 256) (hi : 0 ≤ i ∧ i < 8) : Spc Θ M_X7_bitOf 1 [.int (I bits), .int (I i)] σ (Pu σ (fun z => z = nthB (fun k : Nat => decide (bits / 2 ^ k % 2 = 1)) i 8)) := by
  refine Spc_of (by decide +kernel) (Nat.le_of_ble_eq_true rfl) (fun Γ hB hE => ?_)
  show Run Θ Γ 0 [(0, .int (I bits)), (1, .int (I i))] [] σ
  refine R_iload_n hB (j := 1) dX7_bitOf_0 rfl rfl ?_
  refine R_istore_n hB (L' := [_, _, _]) dX7_bitOf_1 rfl (Nat.le_of_ble_eq_true rfl) rfl ?_
  refine R_iconst hB dX7_bitOf_2 ?_
  refine R_istore_n hB (L' := [_, _, _, _]) dX7_bitOf_3 rfl (Nat.le_of_ble_eq_true rfl) rfl ?_
  have lp_4 : ∀ (n_4 : Nat) (le k : Int), ((8 - k).toNat) < n_4 → (0 ≤ k ∧ k ≤ 8) → (le = i - cnt (fun k : Nat => decide (bits / 2 ^ k % 2 = 1)) k.toNat) → (0 ≤ le ∧ le ≤ i) → (∀ j : Nat, (j : Int) < k → ¬ ((fun k : Nat => decide (bits / 2 ^ k % 2 = 1)) j = true ∧ cnt (fun k : Nat => decide (bits / 2 ^ k % 2 = 1)) j = i)) → Run Θ Γ 4 [(0, .int (I bits)), (1, .int (I i)), (2, .int (I le)), (3, .int (I k))] [] σ := by
    intro n_4
    induction n_4 with
    | zero => intro le k h_m; exact absurd h_m (Nat.not_lt_zero _)
    | succ n_4 ih_4 =>
      intro le k h_m hk hl hl0 hnn
      refine R_iload_n hB (j := 3) dX7_bitOf_4 rfl rfl ?_
      refine R_bipush hB dX7_bitOf_5 rfl ?_
      refine R_icmp_ge hB 33 (by omega) (by omega) dX7_bitOf_7 rfl (fun h7 => ?_) (fun h7 => ?_)
      · refine R_iconst hB dX7_bitOf_33 ?_
        exact R_iret hB hE rfl dX7_bitOf_34 (⟨rfl, by rw [nthB_none (fun j hj q => hnn j (by omega) q)]⟩)
      · refine R_iload_n hB (j := 0) dX7_bitOf_10 rfl rfl ?_
        refine R_iload_n hB (j := 3) dX7_bitOf_11 rfl rfl ?_
        have hbit : ((fun k : Nat => decide (bits / 2 ^ k % 2 = 1)) k.toNat = true) ↔ bits / 2 ^ k.toNat % 2 = 1 := by simp
        refine R_ishr hB ((bits) / 2 ^ (k).toNat) (i_shr (by omega) (by omega)) dX7_bitOf_12 ?_
        refine R_iconst hB dX7_bitOf_13 ?_
        refine R_iand hB (((bits) / 2 ^ (k).toNat) % 2) i_and1 dX7_bitOf_14 ?_
        refine R_if_eq hB 27 (by omega) dX7_bitOf_15 rfl (fun h15 => ?_) (fun h15 => ?_)
        · have hp : (fun k : Nat => decide (bits / 2 ^ k % 2 = 1)) k.toNat = false := by simp only [decide_eq_false_iff_not]; omega
          refine R_iinc hB (j := 3) (L' := [_, _, _, _]) dX7_bitOf_27 rfl (Nat.le_of_ble_eq_true rfl) rfl ?_
          refine R_goto hB 4 dX7_bitOf_30 rfl ?_
          exact R_sub [1, 2, 3, 0] rfl (ih_4 _ _ (by omega) (by omega) (by rw [show (k + 1).toNat = k.toNat + 1 by omega]; first | (rw [cnt_f hp]; omega) | (rw [cnt_t hp]; omega)) (by omega) (fun j hj q => by
            by_cases c : (j : Int) = k
            · have cj : j = k.toNat := by omega
              subst cj
              first | (rw [hp] at q; exact absurd q.1 (by decide)) | omega
            · exact hnn j (by omega) q))
        · have hp : (fun k : Nat => decide (bits / 2 ^ k % 2 = 1)) k.toNat = true := by simp only [decide_eq_true_eq]; omega
          refine R_iload_n hB (j := 2) dX7_bitOf_18 rfl rfl ?_
          refine R_if_ne hB 24 (by omega) dX7_bitOf_19 rfl (fun h19 => ?_) (fun h19 => ?_)
          · refine R_iinc hB (j := 2) (L' := [_, _, _, _]) dX7_bitOf_24 rfl (Nat.le_of_ble_eq_true rfl) rfl ?_
            refine R_iinc hB (j := 3) (L' := [_, _, _, _]) dX7_bitOf_27 rfl (Nat.le_of_ble_eq_true rfl) rfl ?_
            refine R_goto hB 4 dX7_bitOf_30 rfl ?_
            exact R_sub [2, 3, 1, 0] rfl (ih_4 _ _ (by omega) (by omega) (by rw [show (k + 1).toNat = k.toNat + 1 by omega]; first | (rw [cnt_f hp]; omega) | (rw [cnt_t hp]; omega)) (by omega) (fun j hj q => by
              by_cases c : (j : Int) = k
              · have cj : j = k.toNat := by omega
                subst cj
                first | (rw [hp] at q; exact absurd q.1 (by decide)) | omega
              · exact hnn j (by omega) q))
          · refine R_iload_n hB (j := 3) dX7_bitOf_22 rfl rfl ?_
            exact R_iret hB hE rfl dX7_bitOf_23 (⟨rfl, by
              have hl := nthB_late (p := (fun k : Nat => decide (bits / 2 ^ k % 2 = 1))) (i := i) hp (by omega) (8 - (k.toNat + 1))
              rw [show k.toNat + 1 + (8 - (k.toNat + 1)) = 8 by omega] at hl
              rw [hl]; omega⟩)
  exact R_sub [2, 3, 1, 0] rfl (lp_4 _ _ _ (Nat.lt_succ_self _) (by omega) (by rw [show (0 : Int).toNat = 0 from rfl]; simp [cnt]) (by omega) (fun j hj => by omega))

theorem s_need {Θ : Th} {σ : Mem} (d i : Int) (hd : rng d) (hir : rng i) (h : InvC σ) : Spc Θ M_X7_need 1 [.ref (Th.r Θ 0), .int (I d), .int (I i)] σ (fun r σ' => Same SC σ σ' ∧ r = if (0 ≤ d ∧ d < σ 2 4) ∧ (-1 ≤ i ∧ i < 2) then (if 2 < max 0 ((cnt (fun s => cTS σ s d) (σ 0 2).toNat) - σ 25 2 + 1) then -1 else if i = -1 then max 0 ((cnt (fun s => cTS σ s d) (σ 0 2).toNat) - σ 25 2 + 1) else if i < max 0 ((cnt (fun s => cTS σ s d) (σ 0 2).toNat) - σ 25 2 + 1) then nthB (fun k : Nat => decide (bsum (fun s => cTS σ s d) (σ 0 2).toNat / 2 ^ k % 2 = 1)) i 8 else -1) else -2) := by
  refine Spc_of (by decide +kernel) (Nat.le_of_ble_eq_true rfl) (fun Γ hB hE => ?_)
  show Run Θ Γ 0 [(0, .ref (Th.r Θ 0)), (1, .int (I d)), (2, .int (I i))] [] σ
  have hns := h.ns
  have hw := h.row
  have hn := hw.1
  have hr := h.2.2.2.1
  have hr2 := hr.2.2
  refine R_iload_n hB (j := 1) dX7_need_0 rfl rfl ?_
  refine R_aload_n hB (j := 0) dX7_need_1 rfl rfl ?_
  refine R_getr hB (2) fl_X7_24 dX7_need_2 rfl rfl ?_
  refine R_geti hB fl_X7_140 dX7_need_5 rfl ?_
  refine P_cS1 hB (s_within _ _ (by omega) (by omega)) ms_X7_89 (by decide) dX7_need_8 rfl rfl (Nat.le_of_ble_eq_true rfl) (fun z8 h8 => ?_)
  refine R_if_eq hB 27 (by rw [h8]; split <;> omega) dX7_need_11 rfl (fun h11 => ?_) (fun h11 => ?_)
  · have hno : ¬ ((0 ≤ d ∧ d < σ 2 4) ∧ (-1 ≤ i ∧ i < 2)) := by split at h8 <;> omega
    refine R_bipush hB dX7_need_27 rfl ?_
    exact R_iret hB hE rfl dX7_need_29 (⟨Same.rf, by rw [if_neg hno]⟩)
  · have hy : 0 ≤ d ∧ d < σ 2 4 := by split at h8 <;> omega
    have jn_30 : ∀ (_ : Unit), (-1 ≤ i ∧ i < 2) → Run Θ Γ 30 [(0, .ref (Th.r Θ 0)), (1, .int (I d)), (2, .int (I i))] [] σ := by
      intro _ hy3
      refine R_aload_n hB (j := 0) dX7_need_30 rfl rfl ?_
      refine R_aload_n hB (j := 0) dX7_need_31 rfl rfl ?_
      refine R_getr hB (2) fl_X7_24 dX7_need_32 rfl rfl ?_
      refine R_cV0 hB (s_hearAll_2 hns (fun s hs => h.bed hs) hw hr) mv_X7_185 rfl rfl (by decide) dX7_need_35 rfl rfl (Nat.le_of_ble_eq_true rfl) (fun σ1 h35 => ?_)
      rw [hw.2.2] at h35
      obtain ⟨j1, j2, j3, j4, j5⟩ := h35
      have k0 : σ1 0 = σ 0 := j1 0 (by decide)
      have k2 : σ1 2 = σ 2 := j1 2 (by decide)
      have k25 : σ1 25 = σ 25 := j1 25 (by decide)
      have h256 := p2_256 (σ 2 4).toNat (by omega)
      have hT : ∀ s : Nat, s < (σ 0 2).toNat → σ1 48 s = bsum (fun d : Nat => cTS σ s (d : Int)) (σ 2 4).toNat := fun s hs => j5 s (by omega)
      have ht : ∀ s, 0 ≤ s → s < σ1 6 1 → 0 ≤ σ1 48 s ∧ σ1 48 s < 256 := fun s q1 q2 => by
        have := hT s.toNat (by omega)
        rw [show ((s.toNat : Nat) : Int) = s by omega] at this
        have hb := bsum_in (fun d : Nat => cTS σ s.toNat (d : Int)) (σ 2 4).toNat
        omega
      refine R_aload_n hB (j := 0) dX7_need_38 rfl rfl ?_
      refine R_getr hB (6) fl_X7_63 dX7_need_39 rfl rfl ?_
      refine R_iload_n hB (j := 1) dX7_need_42 rfl rfl ?_
      refine P_cV1 hB (s_witnesses d (by omega) (by omega) ht) mv_X7_189 rfl rfl (by decide) dX7_need_43 rfl rfl (Nat.le_of_ble_eq_true rfl) (fun z43 h43 => ?_)
      rw [j2, wit_bits hT (d := d.toNat) (by omega)] at h43
      simp only [show ((d.toNat : Nat) : Int) = d by omega] at h43
      have hb := bsum_in (fun s => cTS σ s d) (σ 0 2).toNat
      have hb8 := p2_256 (σ 0 2).toNat (by omega)
      rw [← h43] at hb
      have hc := cnt_in (fun s => cTS σ s d) (σ 0 2).toNat
      refine R_istore_n hB (L' := [_, _, _, _]) dX7_need_46 rfl (Nat.le_of_ble_eq_true rfl) rfl ?_
      refine R_iconst hB dX7_need_47 ?_
      refine R_iload_n hB (j := 0) dX7_need_48 rfl rfl ?_
      refine P_cS1 hB (s_bitCount _ (by omega)) ms_X7_192 (by decide) dX7_need_49 rfl rfl (Nat.le_of_ble_eq_true rfl) (fun z49 h49 => ?_)
      rw [h43, pc8_bsum _ (by omega)] at h49
      refine R_aload_n hB (j := 1) dX7_need_52 rfl rfl ?_
      refine R_getr hB (25) fl_X7_28 dX7_need_53 rfl rfl ?_
      refine R_iconst hB dX7_need_56 ?_
      refine R_iald hB rfl (by omega) dX7_need_57 ?_
      refine R_isub hB dX7_need_58 ?_
      refine R_iconst hB dX7_need_59 ?_
      refine R_iadd hB dX7_need_60 ?_
      refine P_max hB (by omega) (by rw [k25]; omega) ms_X7_197 (by decide) dX7_need_61 (Nat.le_of_ble_eq_true rfl) ?_
      refine R_nmi (fun mn hmn => ?_)
      refine R_istore hB (L' := [_, _, _, _, _]) dX7_need_64 (Nat.le_of_ble_eq_true rfl) rfl ?_
      rw [k25, h49] at hmn
      refine R_iload hB (j := 0) dX7_need_66 rfl ?_
      refine R_iconst hB dX7_need_68 ?_
      refine R_icmp_le hB 74 (by omega) (by omega) dX7_need_69 rfl (fun h69 => ?_) (fun h69 => ?_)
      · refine R_iload_n hB (j := 4) dX7_need_74 rfl rfl ?_
        refine R_iconst hB dX7_need_75 ?_
        refine R_icmp_ne hB 82 (by omega) (by omega) dX7_need_76 rfl (fun h76 => ?_) (fun h76 => ?_)
        · refine R_iload_n hB (j := 4) dX7_need_82 rfl rfl ?_
          refine R_iload hB (j := 0) dX7_need_83 rfl ?_
          refine R_icmp_ge hB 96 (by omega) (by omega) dX7_need_85 rfl (fun h85 => ?_) (fun h85 => ?_)
          · refine R_iconst hB dX7_need_96 ?_
            exact R_iret hB hE rfl dX7_need_97 (⟨j1.wide (by simp), by rw [if_pos ⟨hy, hy3⟩, ← hmn, if_neg (by omega), if_neg h76]; first | (rw [if_pos h85, ← h43]; exact h90) | (rw [if_neg (by omega)])⟩)
          · refine R_iload_n hB (j := 1) dX7_need_88 rfl rfl ?_
            refine R_iload_n hB (j := 4) dX7_need_89 rfl rfl ?_
            refine P_cS1 hB (s_bitOf z43 i (by omega) (by omega)) ms_X7_224 (by decide) dX7_need_90 rfl rfl (Nat.le_of_ble_eq_true rfl) (fun z90 h90 => ?_)
            refine R_goto hB 97 dX7_need_93 rfl ?_
            exact R_iret hB hE rfl dX7_need_97 (⟨j1.wide (by simp), by rw [if_pos ⟨hy, hy3⟩, ← hmn, if_neg (by omega), if_neg h76]; first | (rw [if_pos h85, ← h43]; exact h90) | (rw [if_neg (by omega)])⟩)
        · refine R_iload hB (j := 0) dX7_need_79 rfl ?_
          exact R_iret hB hE rfl dX7_need_81 (⟨j1.wide (by simp), by rw [if_pos ⟨hy, hy3⟩, ← hmn, if_neg (by omega), if_pos h76]⟩)
      · refine R_iconst hB dX7_need_72 ?_
        exact R_iret hB hE rfl dX7_need_73 (⟨j1.wide (by simp), by rw [if_pos ⟨hy, hy3⟩, ← hmn, if_pos h69]⟩)
    refine R_iload_n hB (j := 2) dX7_need_14 rfl rfl ?_
    refine R_iconst hB dX7_need_15 ?_
    refine R_icmp_eq hB 30 (by omega) (by omega) dX7_need_16 rfl (fun h16 => ?_) (fun h16 => ?_)
    · exact R_sub [0, 1, 2] rfl (jn_30 () (by omega))
    · refine R_iload_n hB (j := 2) dX7_need_19 rfl rfl ?_
      refine R_iconst hB dX7_need_20 ?_
      refine P_cS1 hB (s_within _ _ (by omega) (by omega)) ms_X7_89 (by decide) dX7_need_21 rfl rfl (Nat.le_of_ble_eq_true rfl) (fun z21 h21 => ?_)
      refine R_if_ne hB 30 (by rw [h21]; split <;> omega) dX7_need_24 rfl (fun h24 => ?_) (fun h24 => ?_)
      · exact R_sub [0, 1, 2] rfl (jn_30 () (by split at h21 <;> omega))
      · have hno : ¬ ((0 ≤ d ∧ d < σ 2 4) ∧ (-1 ≤ i ∧ i < 2)) := by split at h21 <;> omega
        refine R_bipush hB dX7_need_27 rfl ?_
        exact R_iret hB hE rfl dX7_need_29 (⟨Same.rf, by rw [if_neg hno]⟩)

theorem s_told {Θ : Th} {σ : Mem} (a b c : Int) (ha : rng a) (hb : rng b) (hc : rng c) (h : InvC σ) : Spc Θ M_X7_told 1 [.ref (Th.r Θ 0), .int (I a), .int (I b), .int (I c)] σ (fun r σ' => (¬ tokP a b c ∧ r = -2 ∧ σ' = σ) ∨ (tokP a b c ∧ σ 4 3 = 8 ∧ r = -4 ∧ σ' = σ) ∨ (tokP a b c ∧ σ 4 3 < 8 ∧ r = σ 4 3 + 1 ∧ σ' = up (up (up (up σ 41 (σ 4 3) a) 42 (σ 4 3) b) 43 (σ 4 3) c) 4 3 (σ 4 3 + 1) ∧ InvC σ')) := by
  refine Spc_of (by decide +kernel) (Nat.le_of_ble_eq_true rfl) (fun Γ hB hE => ?_)
  show Run Θ Γ 0 [(0, .ref (Th.r Θ 0)), (1, .int (I a)), (2, .int (I b)), (3, .int (I c))] [] σ
  have htl := h.2.2.2.2.1
  have hn := htl.1
  refine R_iload_n hB (j := 1) dX7_told_0 rfl rfl ?_
  refine R_iload_n hB (j := 2) dX7_told_1 rfl rfl ?_
  refine R_iload_n hB (j := 3) dX7_told_2 rfl rfl ?_
  refine P_cS1 hB (s_mayBe _ _ _ (by omega) (by omega) (by omega)) ms_X7_227 (by decide) dX7_told_3 rfl rfl (Nat.le_of_ble_eq_true rfl) (fun z3 h3 => ?_)
  refine R_if_ne hB 12 (by rw [h3]; split <;> omega) dX7_told_6 rfl (fun h6 => ?_) (fun h6 => ?_)
  · have hy : tokP a b c := by split at h3 <;> omega
    refine R_aload_n hB (j := 0) dX7_told_12 rfl rfl ?_
    refine R_getr hB (4) fl_X7_35 dX7_told_13 rfl rfl ?_
    refine R_geti hB fl_X7_231 dX7_told_16 rfl ?_
    refine R_bipush hB dX7_told_19 rfl ?_
    refine R_icmp_lt hB 27 (by omega) (by omega) dX7_told_21 rfl (fun h21 => ?_) (fun h21 => ?_)
    · refine R_aload_n hB (j := 0) dX7_told_27 rfl rfl ?_
      refine R_getr hB (4) fl_X7_35 dX7_told_28 rfl rfl ?_
      refine R_iload_n hB (j := 1) dX7_told_31 rfl rfl ?_
      refine R_iload_n hB (j := 2) dX7_told_32 rfl rfl ?_
      refine R_iload_n hB (j := 3) dX7_told_33 rfl rfl ?_
      refine R_cV0 hB (s_tadd a b c hy.1 hy.2.1 hy.2.2 (by omega)) mv_X7_232 rfl rfl (by decide) dX7_told_34 rfl rfl (Nat.le_of_ble_eq_true rfl) (fun σ1 h34 => ?_)
      refine R_aload_n hB (j := 0) dX7_told_37 rfl rfl ?_
      refine R_getr hB (4) fl_X7_35 dX7_told_38 rfl rfl ?_
      refine R_geti hB fl_X7_231 dX7_told_41 rfl ?_
      exact R_iret hB hE rfl dX7_told_44 (Or.inr (Or.inr ⟨hy, by omega, by rw [h34]; simp [up], h34, h.tl (fun i hi => by
          simp only [List.mem_cons, List.not_mem_nil, or_false, not_or] at hi
          rw [h34, up_row hi.1, up_row hi.2.2.2, up_row hi.2.2.1, up_row hi.2.1]) (htl.add hy (by omega) h34)⟩))
    · refine R_bipush hB dX7_told_24 rfl ?_
      exact R_iret hB hE rfl dX7_told_26 (Or.inr (Or.inl ⟨hy, by omega, rfl, rfl⟩))
  · have hno : ¬ tokP a b c := by split at h3 <;> omega
    refine R_bipush hB dX7_told_9 rfl ?_
    exact R_iret hB hE rfl dX7_told_11 (Or.inl ⟨hno, rfl, rfl⟩)

theorem s_forget {Θ : Th} {σ : Mem} (h : InvC σ) : Spc Θ M_X7_forget 1 [.ref (Th.r Θ 0)] σ (fun r σ' => r = σ 4 3 ∧ σ' = up σ 4 3 0 ∧ InvC σ') := by
  refine Spc_of (by decide +kernel) (Nat.le_of_ble_eq_true rfl) (fun Γ hB hE => ?_)
  show Run Θ Γ 0 [(0, .ref (Th.r Θ 0))] [] σ
  refine R_aload_n hB (j := 0) dX7_forget_0 rfl rfl ?_
  refine R_getr hB (4) fl_X7_35 dX7_forget_1 rfl rfl ?_
  refine R_geti hB fl_X7_231 dX7_forget_4 rfl ?_
  refine R_istore_n hB (L' := [_, _]) dX7_forget_7 rfl (Nat.le_of_ble_eq_true rfl) rfl ?_
  refine R_aload_n hB (j := 1) dX7_forget_8 rfl rfl ?_
  refine R_getr hB (4) fl_X7_35 dX7_forget_9 rfl rfl ?_
  refine R_iconst hB dX7_forget_12 ?_
  refine N_puti hB fp_X7_231 dX7_forget_13 rfl (by omega) (fun σ1 e1 => ?_)
  refine R_iload_n hB (j := 0) dX7_forget_16 rfl rfl ?_
  exact R_iret hB hE rfl dX7_forget_17 (⟨rfl, e1, h.tl (fun i hi => by
      simp only [List.mem_cons, List.not_mem_nil, or_false, not_or] at hi
      rw [e1, up_row hi.1]) ⟨by rw [e1, up_s]; omega, fun k q1 q2 => by rw [e1, up_s] at q2; omega⟩⟩)
