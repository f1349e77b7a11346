theorem s_hopen {Θ : Th} {σ : Mem}  : Spc Θ M_X1_open 0 [.ref (Th.r Θ 6)] σ (fun _ σ' => Same [6] σ σ' ∧ σ' 6 1 = 0 ∧ σ' 6 2 = 0 ∧ σ' 6 3 = 0) := by
  refine Spc_of (by decide +kernel) (Nat.le_of_ble_eq_true rfl) (fun Γ hB hE => ?_)
  show Run Θ Γ 0 [(0, .ref (Th.r Θ 6))] [] σ
  refine R_aload_n hB (j := 0) dX1_open_0 rfl rfl ?_
  refine R_iconst hB dX1_open_1 ?_
  refine N_puti hB fp_X1_15 dX1_open_2 rfl (by omega) (fun σ1 e1 => ?_)
  refine R_aload_n hB (j := 0) dX1_open_5 rfl rfl ?_
  refine R_iconst hB dX1_open_6 ?_
  refine N_puti hB fp_X1_19 dX1_open_7 rfl (by omega) (fun σ2 e2 => ?_)
  refine R_aload_n hB (j := 0) dX1_open_10 rfl rfl ?_
  refine R_iconst hB dX1_open_11 ?_
  refine N_puti hB fp_X1_22 dX1_open_12 rfl (by omega) (fun σ3 e3 => ?_)
  exact R_vret hB hE rfl dX1_open_15 (by
    subst e1 e2 e3
    exact ⟨(fun i hi => by
      simp only [List.mem_cons, List.not_mem_nil, or_false, not_or] at hi
      funext k
      simp [up, up, hi]), by simp [up], by simp [up], by simp [up]⟩)

theorem s_hadd {Θ : Th} {σ : Mem} (h1 : 0 ≤ σ 6 1 ∧ σ 6 1 < 8) (h2 : 0 ≤ σ 6 2 ∧ σ 6 2 ≤ 100) (h3 : 0 ≤ σ 6 3 ∧ σ 6 3 ≤ 100) (h4 : 0 ≤ σ 5 4 ∧ σ 5 4 ≤ 100) (h5 : 0 ≤ σ 5 5 ∧ σ 5 5 ≤ 100) (h6 : 0 ≤ σ 5 6 ∧ σ 5 6 < 256) : Spc Θ M_X1_add 0 [.ref (Th.r Θ 6), .ref (Th.r Θ 5)] σ (fun _ σ' => Same [6, 48] σ σ' ∧ σ' 6 1 = σ 6 1 + 1 ∧ σ' 6 2 = σ 6 2 + σ 5 4 ∧ σ' 6 3 = σ 6 3 + σ 5 5 ∧ σ' 48 (σ 6 1) = σ 5 6 ∧ ∀ k, k ≠ σ 6 1 → σ' 48 k = σ 48 k) := by
  refine Spc_of (by decide +kernel) (Nat.le_of_ble_eq_true rfl) (fun Γ hB hE => ?_)
  show Run Θ Γ 0 [(0, .ref (Th.r Θ 6)), (1, .ref (Th.r Θ 5))] [] σ
  refine R_aload_n hB (j := 0) dX1_add_0 rfl rfl ?_
  refine R_geti hB fl_X1_15 dX1_add_1 rfl ?_
  refine R_bipush hB dX1_add_4 rfl ?_
  refine R_icmp_ge hB 58 (by omega) (by omega) dX1_add_6 rfl (fun h6 => ?_) (fun h6 => ?_)
  · exfalso; omega
  · refine R_aload_n hB (j := 0) dX1_add_9 rfl rfl ?_
    refine R_getr hB (48) fl_X1_9 dX1_add_10 rfl rfl ?_
    refine R_aload_n hB (j := 0) dX1_add_13 rfl rfl ?_
    refine R_geti hB fl_X1_15 dX1_add_14 rfl ?_
    refine R_aload_n hB (j := 1) dX1_add_17 rfl rfl ?_
    refine R_geti hB fl_X1_25 dX1_add_18 rfl ?_
    refine N_iast hB rfl (by omega) (by omega) dX1_add_21 (fun σ1 e1 => ?_)
    have p1 : σ1 6 = σ 6 := by rw [e1]; exact up_row (by decide)
    have p2 : σ1 5 = σ 5 := by rw [e1]; exact up_row (by decide)
    refine R_aload_n hB (j := 0) dX1_add_22 rfl rfl ?_
    refine R_dup hB dX1_add_23 rfl ?_
    refine R_geti hB fl_X1_19 dX1_add_24 rfl ?_
    refine R_aload_n hB (j := 1) dX1_add_27 rfl rfl ?_
    refine R_geti hB fl_X1_30 dX1_add_28 rfl ?_
    refine R_iadd hB dX1_add_31 ?_
    refine N_puti hB fp_X1_19 dX1_add_32 rfl (by rw [p1, p2]; omega) (fun σ2 e2 => ?_)
    have p3 : σ2 6 3 = σ 6 3 := by rw [e2, up_n (by decide), p1]
    have p4 : σ2 5 = σ 5 := by rw [e2, up_row (by decide), p2]
    refine R_aload_n hB (j := 0) dX1_add_35 rfl rfl ?_
    refine R_dup hB dX1_add_36 rfl ?_
    refine R_geti hB fl_X1_22 dX1_add_37 rfl ?_
    refine R_aload_n hB (j := 1) dX1_add_40 rfl rfl ?_
    refine R_geti hB fl_X1_31 dX1_add_41 rfl ?_
    refine R_iadd hB dX1_add_44 ?_
    refine N_puti hB fp_X1_22 dX1_add_45 rfl (by rw [p3, p4]; omega) (fun σ3 e3 => ?_)
    have p5 : σ3 6 1 = σ 6 1 := by rw [e3, up_n (by decide), e2, up_n (by decide), p1]
    refine R_aload_n hB (j := 0) dX1_add_48 rfl rfl ?_
    refine R_dup hB dX1_add_49 rfl ?_
    refine R_geti hB fl_X1_15 dX1_add_50 rfl ?_
    refine R_iconst hB dX1_add_53 ?_
    refine R_iadd hB dX1_add_54 ?_
    refine N_puti hB fp_X1_15 dX1_add_55 rfl (by rw [p5]; omega) (fun σ4 e4 => ?_)
    exact R_vret hB hE rfl dX1_add_58 (by
      rw [p5] at e4
      rw [p3, p4] at e3
      rw [p1, p2] at e2
      subst e1 e2 e3 e4
      exact ⟨(fun i hi => by
        simp only [List.mem_cons, List.not_mem_nil, or_false, not_or] at hi
        funext k
        simp [up, up, hi]), by simp [up], by simp [up], by simp [up], by simp [up], fun k hk => by simp [up, hk]⟩)

theorem s_witnesses {Θ : Th} {σ : Mem} (d : Int) (hd : 0 ≤ d ∧ d < 8) (h1 : 0 ≤ σ 6 1 ∧ σ 6 1 ≤ 8) (ht : ∀ s, 0 ≤ s → s < σ 6 1 → 0 ≤ σ 48 s ∧ σ 48 s < 256) : Spc Θ M_X1_witnesses 1 [.ref (Th.r Θ 6), .int (I d)] σ (Pu σ (fun z => z = bsum (fun s : Nat => decide (σ 48 (s : Int) / 2 ^ d.toNat % 2 = 1)) (σ 6 1).toNat)) := by
  refine Spc_of (by decide +kernel) (Nat.le_of_ble_eq_true rfl) (fun Γ hB hE => ?_)
  show Run Θ Γ 0 [(0, .ref (Th.r Θ 6)), (1, .int (I d))] [] σ
  refine R_iconst hB dX1_witnesses_0 ?_
  refine R_istore_n hB (L' := [_, _, _]) dX1_witnesses_1 rfl (Nat.le_of_ble_eq_true rfl) rfl ?_
  refine R_iconst hB dX1_witnesses_2 ?_
  refine R_istore_n hB (L' := [_, _, _, _]) dX1_witnesses_3 rfl (Nat.le_of_ble_eq_true rfl) rfl ?_
  have lp_4 : ∀ (n_4 : Nat) (bits s : Int), ((σ 6 1 - s).toNat) < n_4 → (0 ≤ s ∧ s ≤ σ 6 1) → (bits = bsum (fun s : Nat => decide (σ 48 (s : Int) / 2 ^ d.toNat % 2 = 1)) s.toNat) → Run Θ Γ 4 [(0, .ref (Th.r Θ 6)), (1, .int (I d)), (2, .int (I bits)), (3, .int (I s))] [] σ := by
    intro n_4
    induction n_4 with
    | zero => intro bits s h_m; exact absurd h_m (Nat.not_lt_zero _)
    | succ n_4 ih_4 =>
      intro bits s h_m hs hbits
      refine R_iload_n hB (j := 3) dX1_witnesses_4 rfl rfl ?_
      refine R_aload_n hB (j := 0) dX1_witnesses_5 rfl rfl ?_
      refine R_geti hB fl_X1_15 dX1_witnesses_6 rfl ?_
      refine R_icmp_ge hB 33 (by omega) (by omega) dX1_witnesses_9 rfl (fun h9 => ?_) (fun h9 => ?_)
      · refine R_iload_n hB (j := 2) dX1_witnesses_33 rfl rfl ?_
        exact R_iret hB hE rfl dX1_witnesses_34 (⟨rfl, by rw [hbits]; congr 1; omega⟩)
      · refine R_iload_n hB (j := 2) dX1_witnesses_12 rfl rfl ?_
        refine R_aload_n hB (j := 0) dX1_witnesses_13 rfl rfl ?_
        refine R_getr hB (48) fl_X1_9 dX1_witnesses_14 rfl rfl ?_
        refine R_iload_n hB (j := 3) dX1_witnesses_17 rfl rfl ?_
        refine R_iald hB rfl (by omega) dX1_witnesses_18 ?_
        refine R_iload_n hB (j := 1) dX1_witnesses_19 rfl rfl ?_
        have hts := ht s (by omega) (by omega)
        refine R_ishr hB ((σ 48 (s)) / 2 ^ (d).toNat) (i_shr (by omega) (by omega)) dX1_witnesses_20 ?_
        refine R_iconst hB dX1_witnesses_21 ?_
        refine R_iand hB (((σ 48 (s)) / 2 ^ (d).toNat) % 2) i_and1 dX1_witnesses_22 ?_
        refine R_iload_n hB (j := 3) dX1_witnesses_23 rfl rfl ?_
        have hb := bsum_in (fun s : Nat => decide (σ 48 (s : Int) / 2 ^ d.toNat % 2 = 1)) s.toNat
        have hp := p2_8 s.toNat (by omega)
        have hp0 := p2_pos s.toNat
        refine R_ishl hB (((σ 48 s) / 2 ^ (d).toNat % 2) * 2 ^ (s).toNat) (i_shlb (by omega) (by omega)) dX1_witnesses_24 ?_
        refine R_ior hB (bsum (fun s : Nat => decide (σ 48 (s : Int) / 2 ^ d.toNat % 2 = 1)) (s.toNat + 1)) (by
            rw [hbits]
            simp only [bsum, show ((s.toNat : Nat) : Int) = s by omega, decide_eq_true_eq]
            rcases (show σ 48 s / 2 ^ d.toNat % 2 = 0 ∨ σ 48 s / 2 ^ d.toNat % 2 = 1 by omega) with q | q
            · have h0 : ∀ x : Int, 0 ≤ x → orZ x 0 = x := fun x hx => by unfold orZ; simp; omega
              rw [q, Int.zero_mul, i_or (by omega) (by omega), h0 _ hb.1]
              simp
            · rw [q, Int.one_mul, i_oradd hb (by omega)]
              simp) dX1_witnesses_25 ?_
        refine R_istore_n hB (L' := [_, _, _, _]) dX1_witnesses_26 rfl (Nat.le_of_ble_eq_true rfl) rfl ?_
        refine R_iinc hB (j := 3) (L' := [_, _, _, _]) dX1_witnesses_27 rfl (Nat.le_of_ble_eq_true rfl) rfl ?_
        refine R_goto hB 4 dX1_witnesses_30 rfl ?_
        exact R_sub [2, 3, 1, 0] rfl (ih_4 _ _ (by omega) (by omega) (by rw [show (s + 1).toNat = s.toNat + 1 by omega]))
  exact R_sub [2, 3, 1, 0] rfl (lp_4 _ _ _ (Nat.lt_succ_self _) (by omega) rfl)

theorem s_provenOf0 {Θ : Th} {σ : Mem} (n proof : Int) (hn : 0 ≤ n ∧ n ≤ 8) (hp : 0 ≤ proof ∧ proof ≤ 100) (h1 : 0 ≤ σ 6 1 ∧ σ 6 1 ≤ 8) (ht : ∀ s, 0 ≤ s → s < σ 6 1 → 0 ≤ σ 48 s ∧ σ 48 s < 256) : Spc Θ M_X1_provenOf 1 [.ref (Th.r Θ 6), .int (I n), .int (I proof)] σ (Pu σ (fun z => z = cnt (fun d : Nat => decide (proof ≤ cnt (fun s : Nat => decide (σ 48 (s : Int) / 2 ^ d % 2 = 1)) (σ 6 1).toNat)) n.toNat)) := by
  refine Spc_of (by decide +kernel) (Nat.le_of_ble_eq_true rfl) (fun Γ hB hE => ?_)
  show Run Θ Γ 0 [(0, .ref (Th.r Θ 6)), (1, .int (I n)), (2, .int (I proof))] [] σ
  refine R_iconst hB dX1_provenOf_0 ?_
  refine R_istore_n hB (L' := [_, _, _, _]) dX1_provenOf_1 rfl (Nat.le_of_ble_eq_true rfl) rfl ?_
  refine R_iconst hB dX1_provenOf_2 ?_
  refine R_istore hB (L' := [_, _, _, _, _]) dX1_provenOf_3 (Nat.le_of_ble_eq_true rfl) rfl ?_
  have lp_5 : ∀ (n_5 : Nat) (k d : Int), ((n - d).toNat) < n_5 → (0 ≤ d ∧ d ≤ n) → (k = cnt (fun d : Nat => decide (proof ≤ cnt (fun s : Nat => decide (σ 48 (s : Int) / 2 ^ d % 2 = 1)) (σ 6 1).toNat)) d.toNat) → (0 ≤ k ∧ k ≤ d) → Run Θ Γ 5 [(0, .ref (Th.r Θ 6)), (1, .int (I n)), (2, .int (I proof)), (3, .int (I k)), (4, .int (I d))] [] σ := by
    intro n_5
    induction n_5 with
    | zero => intro k d h_m; exact absurd h_m (Nat.not_lt_zero _)
    | succ n_5 ih_5 =>
      intro k d h_m hd hm hk
      refine R_iload hB (j := 4) dX1_provenOf_5 rfl ?_
      refine R_iload_n hB (j := 1) dX1_provenOf_7 rfl rfl ?_
      refine R_icmp_ge hB 33 (by omega) (by omega) dX1_provenOf_8 rfl (fun h8 => ?_) (fun h8 => ?_)
      · refine R_iload_n hB (j := 3) dX1_provenOf_33 rfl rfl ?_
        exact R_iret hB hE rfl dX1_provenOf_34 (⟨rfl, by rw [hm]; congr 1; omega⟩)
      · refine R_aload_n hB (j := 0) dX1_provenOf_11 rfl rfl ?_
        refine R_iload hB (j := 4) dX1_provenOf_12 rfl ?_
        refine P_cV1 hB (s_witnesses _ (by omega) (by omega) ht) mv_X1_32 rfl rfl (by decide) dX1_provenOf_14 rfl rfl (Nat.le_of_ble_eq_true rfl) (fun z14 h14 => ?_)
        have hb := bsum_in (fun s : Nat => decide (σ 48 (s : Int) / 2 ^ d.toNat % 2 = 1)) (σ 6 1).toNat
        have hb2 : (2:Int) ^ (σ 6 1).toNat ≤ 256 := by
          have q : ∀ n : Nat, n ≤ 8 → (2:Int) ^ n ≤ 256 := by decide
          exact q _ (by omega)
        rw [← h14] at hb
        refine P_cS1 hB (s_bitCount _ (by omega)) ms_X1_36 (by decide) dX1_provenOf_17 rfl rfl (Nat.le_of_ble_eq_true rfl) (fun z17 h17 => ?_)
        rw [h14, pc8_bsum _ (by omega)] at h17
        have hc := cnt_in (fun s : Nat => decide (σ 48 (s : Int) / 2 ^ d.toNat % 2 = 1)) (σ 6 1).toNat
        rw [← h17] at hc
        refine R_iload_n hB (j := 2) dX1_provenOf_20 rfl rfl ?_
        refine R_icmp_lt hB 27 (by omega) (by omega) dX1_provenOf_21 rfl (fun h21 => ?_) (fun h21 => ?_)
        · refine R_iinc hB (j := 4) (L' := [_, _, _, _, _]) dX1_provenOf_27 rfl (Nat.le_of_ble_eq_true rfl) rfl ?_
          refine R_goto hB 5 dX1_provenOf_30 rfl ?_
          exact R_sub [1, 2, 3, 4, 0] rfl (ih_5 _ _ (by omega) (by omega) (by
            rw [show (d + 1).toNat = d.toNat + 1 by omega]
            simp only [cnt, decide_eq_true_eq]
            rw [← h17, ← hm]
            split <;> omega) (by omega))
        · refine R_iinc hB (j := 3) (L' := [_, _, _, _, _]) dX1_provenOf_24 rfl (Nat.le_of_ble_eq_true rfl) rfl ?_
          refine R_iinc hB (j := 4) (L' := [_, _, _, _, _]) dX1_provenOf_27 rfl (Nat.le_of_ble_eq_true rfl) rfl ?_
          refine R_goto hB 5 dX1_provenOf_30 rfl ?_
          exact R_sub [2, 3, 4, 1, 0] rfl (ih_5 _ _ (by omega) (by omega) (by
            rw [show (d + 1).toNat = d.toNat + 1 by omega]
            simp only [cnt, decide_eq_true_eq]
            rw [← h17, ← hm]
            split <;> omega) (by omega))
  exact R_sub [2, 3, 4, 1, 0] rfl (lp_5 _ _ _ (Nat.lt_succ_self _) (by omega) rfl (by omega))

theorem s_mayBe {Θ : Th} {σ : Mem} (a b c : Int) (ha : rng a) (hb : rng b) (hc : rng c) : Spc Θ M_X5_mayBe 1 [.int (I a), .int (I b), .int (I c)] σ (Pu σ (fun z => z = if (0 ≤ a ∧ a < 8) ∧ (0 ≤ b ∧ b < 4) ∧ (0 ≤ c ∧ c < 9) then 1 else 0)) := by
  refine Spc_of (by decide +kernel) (Nat.le_of_ble_eq_true rfl) (fun Γ hB hE => ?_)
  show Run Θ Γ 0 [(0, .int (I a)), (1, .int (I b)), (2, .int (I c))] [] σ
  refine R_iload_n hB (j := 0) dX5_mayBe_0 rfl rfl ?_
  refine R_bipush hB dX5_mayBe_1 rfl ?_
  refine P_within5 hB rfl (by omega) (by omega) (by decide) dX5_mayBe_3 (Nat.le_of_ble_eq_true rfl) (fun z3 h3 => ?_)
  refine R_if_eq hB 30 (by rw [h3]; split <;> omega) dX5_mayBe_6 rfl (fun h6 => ?_) (fun h6 => ?_)
  · refine R_iconst hB dX5_mayBe_30 ?_
    exact R_zret hB hE rfl (rfl) dX5_mayBe_31 (⟨rfl, by first | (split at h3 <;> (first | (exfalso; omega) | (rw [if_neg (by omega)]))) | (split at h11 <;> (first | (exfalso; omega) | (rw [if_neg (by omega)]))) | (split at h20 <;> (first | (exfalso; omega) | (rw [if_neg (by omega)]))) | (split at h3 <;> split at h11 <;> split at h20 <;> (first | (exfalso; omega) | (rw [if_pos (by omega)])))⟩)
  · refine R_iload_n hB (j := 1) dX5_mayBe_9 rfl rfl ?_
    refine R_iconst hB dX5_mayBe_10 ?_
    refine P_within5 hB rfl (by omega) (by omega) (by decide) dX5_mayBe_11 (Nat.le_of_ble_eq_true rfl) (fun z11 h11 => ?_)
    refine R_if_eq hB 30 (by rw [h11]; split <;> omega) dX5_mayBe_14 rfl (fun h14 => ?_) (fun h14 => ?_)
    · refine R_iconst hB dX5_mayBe_30 ?_
      exact R_zret hB hE rfl (rfl) dX5_mayBe_31 (⟨rfl, by first | (split at h3 <;> (first | (exfalso; omega) | (rw [if_neg (by omega)]))) | (split at h11 <;> (first | (exfalso; omega) | (rw [if_neg (by omega)]))) | (split at h20 <;> (first | (exfalso; omega) | (rw [if_neg (by omega)]))) | (split at h3 <;> split at h11 <;> split at h20 <;> (first | (exfalso; omega) | (rw [if_pos (by omega)])))⟩)
    · refine R_iload_n hB (j := 2) dX5_mayBe_17 rfl rfl ?_
      refine R_bipush hB dX5_mayBe_18 rfl ?_
      refine P_within5 hB rfl (by omega) (by omega) (by decide) dX5_mayBe_20 (Nat.le_of_ble_eq_true rfl) (fun z20 h20 => ?_)
      refine R_if_eq hB 30 (by rw [h20]; split <;> omega) dX5_mayBe_23 rfl (fun h23 => ?_) (fun h23 => ?_)
      · refine R_iconst hB dX5_mayBe_30 ?_
        exact R_zret hB hE rfl (rfl) dX5_mayBe_31 (⟨rfl, by first | (split at h3 <;> (first | (exfalso; omega) | (rw [if_neg (by omega)]))) | (split at h11 <;> (first | (exfalso; omega) | (rw [if_neg (by omega)]))) | (split at h20 <;> (first | (exfalso; omega) | (rw [if_neg (by omega)]))) | (split at h3 <;> split at h11 <;> split at h20 <;> (first | (exfalso; omega) | (rw [if_pos (by omega)])))⟩)
      · refine R_iconst hB dX5_mayBe_26 ?_
        refine R_goto hB 31 dX5_mayBe_27 rfl ?_
        exact R_zret hB hE rfl (rfl) dX5_mayBe_31 (⟨rfl, by first | (split at h3 <;> (first | (exfalso; omega) | (rw [if_neg (by omega)]))) | (split at h11 <;> (first | (exfalso; omega) | (rw [if_neg (by omega)]))) | (split at h20 <;> (first | (exfalso; omega) | (rw [if_neg (by omega)]))) | (split at h3 <;> split at h11 <;> split at h20 <;> (first | (exfalso; omega) | (rw [if_pos (by omega)])))⟩)

theorem s_tadd {Θ : Th} {σ : Mem} (a b c : Int) (ha : 0 ≤ a ∧ a < 8) (hb : 0 ≤ b ∧ b < 4) (hc : 0 ≤ c ∧ c < 9) (hn : 0 ≤ σ 4 3 ∧ σ 4 3 < 8) : Spc Θ M_X5_add 0 [.ref (Th.r Θ 4), .int (I a), .int (I b), .int (I c)] σ (fun _ σ' => σ' = up (up (up (up σ 41 (σ 4 3) a) 42 (σ 4 3) b) 43 (σ 4 3) c) 4 3 (σ 4 3 + 1)) := by
  refine Spc_of (by decide +kernel) (Nat.le_of_ble_eq_true rfl) (fun Γ hB hE => ?_)
  show Run Θ Γ 0 [(0, .ref (Th.r Θ 4)), (1, .int (I a)), (2, .int (I b)), (3, .int (I c))] [] σ
  refine R_aload_n hB (j := 0) dX5_add_0 rfl rfl ?_
  refine R_geti hB fl_X5_25 dX5_add_1 rfl ?_
  refine R_bipush hB dX5_add_4 rfl ?_
  refine R_icmp_ge hB 49 (by omega) (by omega) dX5_add_6 rfl (fun h6 => ?_) (fun h6 => ?_)
  · exfalso; omega
  · refine R_aload_n hB (j := 0) dX5_add_9 rfl rfl ?_
    refine R_getr hB (41) fl_X5_9 dX5_add_10 rfl rfl ?_
    refine R_aload_n hB (j := 0) dX5_add_13 rfl rfl ?_
    refine R_geti hB fl_X5_25 dX5_add_14 rfl ?_
    refine R_iload_n hB (j := 1) dX5_add_17 rfl rfl ?_
    refine N_iast hB rfl (by omega) (by omega) dX5_add_18 (fun σ1 e1 => ?_)
    have p1 : σ1 4 = σ 4 := by rw [e1]; exact up_row (by decide)
    refine R_aload_n hB (j := 0) dX5_add_19 rfl rfl ?_
    refine R_getr hB (42) fl_X5_15 dX5_add_20 rfl rfl ?_
    refine R_aload_n hB (j := 0) dX5_add_23 rfl rfl ?_
    refine R_geti hB fl_X5_25 dX5_add_24 rfl ?_
    refine R_iload_n hB (j := 2) dX5_add_27 rfl rfl ?_
    refine N_iast hB rfl (by rw [p1]; omega) (by omega) dX5_add_28 (fun σ2 e2 => ?_)
    have p2 : σ2 4 = σ 4 := by rw [e2, up_row (by decide), p1]
    refine R_aload_n hB (j := 0) dX5_add_29 rfl rfl ?_
    refine R_getr hB (43) fl_X5_18 dX5_add_30 rfl rfl ?_
    refine R_aload_n hB (j := 0) dX5_add_33 rfl rfl ?_
    refine R_geti hB fl_X5_25 dX5_add_34 rfl ?_
    refine R_iload_n hB (j := 3) dX5_add_37 rfl rfl ?_
    refine N_iast hB rfl (by rw [p2]; omega) (by omega) dX5_add_38 (fun σ3 e3 => ?_)
    have p3 : σ3 4 = σ 4 := by rw [e3, up_row (by decide), p2]
    refine R_aload_n hB (j := 0) dX5_add_39 rfl rfl ?_
    refine R_dup hB dX5_add_40 rfl ?_
    refine R_geti hB fl_X5_25 dX5_add_41 rfl ?_
    refine R_iconst hB dX5_add_44 ?_
    refine R_iadd hB dX5_add_45 ?_
    refine N_puti hB fp_X5_25 dX5_add_46 rfl (by rw [p3]; omega) (fun σ4 e4 => ?_)
    exact R_vret hB hE rfl dX5_add_49 (by rw [e4, p3, e3, p2, e2, p1, e1])

def cutF (f v : Int) : Int := if f = 0 then ((I v).toInt8.toInt32).toInt else if f = 1 then ((I v).toInt16.toInt32).toInt else v
theorem cutF_rng {f v : Int} (h : rng v) : rng (cutF f v) := by
  unfold cutF
  split
  · exact I_rng _
  · split
    · exact I_rng _
    · exact h

theorem s_renew_0 {Θ : Th} {σ : Mem} (f n : Int) (hf : 0 ≤ f ∧ f < 3) (hn : 0 ≤ n ∧ n ≤ 60) : Spc Θ M_X3_renew 0 [.ref (Th.r Θ 18), .int (I f), .int (I n)] σ (fun _ σ' => σ' = fillM (up (up (up σ 18 1 0) 18 2 f) 18 3 n) 49 60 0) := by
  refine Spc_of (by decide +kernel) (Nat.le_of_ble_eq_true rfl) (fun Γ hB hE => ?_)
  show Run Θ Γ 0 [(0, .ref (Th.r Θ 18)), (1, .int (I f)), (2, .int (I n))] [] σ
  refine R_aload_n hB (j := 0) dX3_renew_0 rfl rfl ?_
  refine R_iconst hB dX3_renew_1 ?_
  refine N_putz hB fp_X3_15 dX3_renew_2 rfl (by omega) (fun σ1 e1 => ?_)
  refine R_aload_n hB (j := 0) dX3_renew_5 rfl rfl ?_
  refine R_iload_n hB (j := 1) dX3_renew_6 rfl rfl ?_
  refine N_puti hB fp_X3_19 dX3_renew_7 rfl (by omega) (fun σ2 e2 => ?_)
  refine R_aload_n hB (j := 0) dX3_renew_10 rfl rfl ?_
  refine R_iload_n hB (j := 2) dX3_renew_11 rfl rfl ?_
  refine N_puti hB fp_X3_23 dX3_renew_12 rfl (by omega) (fun σ3 e3 => ?_)
  refine R_aload_n hB (j := 0) dX3_renew_15 rfl rfl ?_
  refine R_getr hB (49) fl_X3_9 dX3_renew_16 rfl rfl ?_
  refine R_iconst hB dX3_renew_19 ?_
  refine R_cS0 hB (s_fill 49 60 _ (by omega) rfl) ms_X3_26 (by decide) dX3_renew_20 rfl rfl (Nat.le_of_ble_eq_true rfl) (fun σ4 h20 => ?_)
  exact R_vret hB hE rfl dX3_renew_23 (by rw [h20, e3, e2, e1]; rfl)

theorem s_enter_0 {Θ : Th} {σ : Mem} (i v : Int) (hi : 0 ≤ i ∧ i < 60) (hv : rng v) (hf : 0 ≤ σ 18 2 ∧ σ 18 2 < 3) : Spc Θ M_X3_enter 0 [.ref (Th.r Θ 18), .int (I i), .int (I v)] σ (fun _ σ' => σ' = up σ 49 i (cutF (σ 18 2) v)) := by
  refine Spc_of (by decide +kernel) (Nat.le_of_ble_eq_true rfl) (fun Γ hB hE => ?_)
  show Run Θ Γ 0 [(0, .ref (Th.r Θ 18)), (1, .int (I i)), (2, .int (I v))] [] σ
  refine R_aload_n hB (j := 0) dX3_enter_0 rfl rfl ?_
  refine R_geti hB fl_X3_19 dX3_enter_1 rfl ?_
  refine R_if_ne hB 18 (by omega) dX3_enter_4 rfl (fun h4 => ?_) (fun h4 => ?_)
  · refine R_aload_n hB (j := 0) dX3_enter_18 rfl rfl ?_
    refine R_getr hB (49) fl_X3_9 dX3_enter_19 rfl rfl ?_
    refine R_iload_n hB (j := 1) dX3_enter_22 rfl rfl ?_
    refine R_aload_n hB (j := 0) dX3_enter_23 rfl rfl ?_
    refine R_geti hB fl_X3_19 dX3_enter_24 rfl ?_
    refine R_iconst hB dX3_enter_27 ?_
    refine R_icmp_ne hB 36 (by omega) (by omega) dX3_enter_28 rfl (fun h28 => ?_) (fun h28 => ?_)
    · refine R_iload_n hB (j := 2) dX3_enter_36 rfl rfl ?_
      refine N_iast hB rfl (by omega) (by first | exact I_rng _ | exact hv) dX3_enter_37 (fun σ1 e1 => ?_)
      exact R_vret hB hE rfl dX3_enter_38 (by simp only [cutF]; first | (rw [if_pos h4]; assumption) | (rw [if_neg h4, if_pos h28]; assumption) | (rw [if_neg h4, if_neg h28]; assumption))
    · refine R_iload_n hB (j := 2) dX3_enter_31 rfl rfl ?_
      refine R_i2s hB (((I v).toInt16.toInt32).toInt) (I_of _).symm dX3_enter_32 ?_
      refine R_goto hB 37 dX3_enter_33 rfl ?_
      refine N_iast hB rfl (by omega) (by first | exact I_rng _ | exact hv) dX3_enter_37 (fun σ2 e2 => ?_)
      exact R_vret hB hE rfl dX3_enter_38 (by simp only [cutF]; first | (rw [if_pos h4]; assumption) | (rw [if_neg h4, if_pos h28]; assumption) | (rw [if_neg h4, if_neg h28]; assumption))
  · refine R_aload_n hB (j := 0) dX3_enter_7 rfl rfl ?_
    refine R_getr hB (49) fl_X3_9 dX3_enter_8 rfl rfl ?_
    refine R_iload_n hB (j := 1) dX3_enter_11 rfl rfl ?_
    refine R_iload_n hB (j := 2) dX3_enter_12 rfl rfl ?_
    refine R_i2b hB (((I v).toInt8.toInt32).toInt) (I_of _).symm dX3_enter_13 ?_
    refine N_iast hB rfl (by omega) (I_rng _) dX3_enter_14 (fun σ3 e3 => ?_)
    refine R_goto hB 38 dX3_enter_15 rfl ?_
    exact R_vret hB hE rfl dX3_enter_38 (by simp only [cutF]; first | (rw [if_pos h4]; assumption) | (rw [if_neg h4, if_pos h28]; assumption) | (rw [if_neg h4, if_neg h28]; assumption))

theorem s_renew_1 {Θ : Th} {σ : Mem} (f n : Int) (hf : 0 ≤ f ∧ f < 3) (hn : 0 ≤ n ∧ n ≤ 60) : Spc Θ M_X3_renew 0 [.ref (Th.r Θ 19), .int (I f), .int (I n)] σ (fun _ σ' => σ' = fillM (up (up (up σ 19 1 0) 19 2 f) 19 3 n) 50 60 0) := by
  refine Spc_of (by decide +kernel) (Nat.le_of_ble_eq_true rfl) (fun Γ hB hE => ?_)
  show Run Θ Γ 0 [(0, .ref (Th.r Θ 19)), (1, .int (I f)), (2, .int (I n))] [] σ
  refine R_aload_n hB (j := 0) dX3_renew_0 rfl rfl ?_
  refine R_iconst hB dX3_renew_1 ?_
  refine N_putz hB fp_X3_15 dX3_renew_2 rfl (by omega) (fun σ1 e1 => ?_)
  refine R_aload_n hB (j := 0) dX3_renew_5 rfl rfl ?_
  refine R_iload_n hB (j := 1) dX3_renew_6 rfl rfl ?_
  refine N_puti hB fp_X3_19 dX3_renew_7 rfl (by omega) (fun σ2 e2 => ?_)
  refine R_aload_n hB (j := 0) dX3_renew_10 rfl rfl ?_
  refine R_iload_n hB (j := 2) dX3_renew_11 rfl rfl ?_
  refine N_puti hB fp_X3_23 dX3_renew_12 rfl (by omega) (fun σ3 e3 => ?_)
  refine R_aload_n hB (j := 0) dX3_renew_15 rfl rfl ?_
  refine R_getr hB (50) fl_X3_9 dX3_renew_16 rfl rfl ?_
  refine R_iconst hB dX3_renew_19 ?_
  refine R_cS0 hB (s_fill 50 60 _ (by omega) rfl) ms_X3_26 (by decide) dX3_renew_20 rfl rfl (Nat.le_of_ble_eq_true rfl) (fun σ4 h20 => ?_)
  exact R_vret hB hE rfl dX3_renew_23 (by rw [h20, e3, e2, e1]; rfl)

theorem s_enter_1 {Θ : Th} {σ : Mem} (i v : Int) (hi : 0 ≤ i ∧ i < 60) (hv : rng v) (hf : 0 ≤ σ 19 2 ∧ σ 19 2 < 3) : Spc Θ M_X3_enter 0 [.ref (Th.r Θ 19), .int (I i), .int (I v)] σ (fun _ σ' => σ' = up σ 50 i (cutF (σ 19 2) v)) := by
  refine Spc_of (by decide +kernel) (Nat.le_of_ble_eq_true rfl) (fun Γ hB hE => ?_)
  show Run Θ Γ 0 [(0, .ref (Th.r Θ 19)), (1, .int (I i)), (2, .int (I v))] [] σ
  refine R_aload_n hB (j := 0) dX3_enter_0 rfl rfl ?_
  refine R_geti hB fl_X3_19 dX3_enter_1 rfl ?_
  refine R_if_ne hB 18 (by omega) dX3_enter_4 rfl (fun h4 => ?_) (fun h4 => ?_)
  · refine R_aload_n hB (j := 0) dX3_enter_18 rfl rfl ?_
    refine R_getr hB (50) fl_X3_9 dX3_enter_19 rfl rfl ?_
    refine R_iload_n hB (j := 1) dX3_enter_22 rfl rfl ?_
    refine R_aload_n hB (j := 0) dX3_enter_23 rfl rfl ?_
    refine R_geti hB fl_X3_19 dX3_enter_24 rfl ?_
    refine R_iconst hB dX3_enter_27 ?_
    refine R_icmp_ne hB 36 (by omega) (by omega) dX3_enter_28 rfl (fun h28 => ?_) (fun h28 => ?_)
    · refine R_iload_n hB (j := 2) dX3_enter_36 rfl rfl ?_
      refine N_iast hB rfl (by omega) (by first | exact I_rng _ | exact hv) dX3_enter_37 (fun σ1 e1 => ?_)
      exact R_vret hB hE rfl dX3_enter_38 (by simp only [cutF]; first | (rw [if_pos h4]; assumption) | (rw [if_neg h4, if_pos h28]; assumption) | (rw [if_neg h4, if_neg h28]; assumption))
    · refine R_iload_n hB (j := 2) dX3_enter_31 rfl rfl ?_
      refine R_i2s hB (((I v).toInt16.toInt32).toInt) (I_of _).symm dX3_enter_32 ?_
      refine R_goto hB 37 dX3_enter_33 rfl ?_
      refine N_iast hB rfl (by omega) (by first | exact I_rng _ | exact hv) dX3_enter_37 (fun σ2 e2 => ?_)
      exact R_vret hB hE rfl dX3_enter_38 (by simp only [cutF]; first | (rw [if_pos h4]; assumption) | (rw [if_neg h4, if_pos h28]; assumption) | (rw [if_neg h4, if_neg h28]; assumption))
  · refine R_aload_n hB (j := 0) dX3_enter_7 rfl rfl ?_
    refine R_getr hB (50) fl_X3_9 dX3_enter_8 rfl rfl ?_
    refine R_iload_n hB (j := 1) dX3_enter_11 rfl rfl ?_
    refine R_iload_n hB (j := 2) dX3_enter_12 rfl rfl ?_
    refine R_i2b hB (((I v).toInt8.toInt32).toInt) (I_of _).symm dX3_enter_13 ?_
    refine N_iast hB rfl (by omega) (I_rng _) dX3_enter_14 (fun σ3 e3 => ?_)
    refine R_goto hB 38 dX3_enter_15 rfl ?_
    exact R_vret hB hE rfl dX3_enter_38 (by simp only [cutF]; first | (rw [if_pos h4]; assumption) | (rw [if_neg h4, if_pos h28]; assumption) | (rw [if_neg h4, if_neg h28]; assumption))

theorem s_renew_2 {Θ : Th} {σ : Mem} (f n : Int) (hf : 0 ≤ f ∧ f < 3) (hn : 0 ≤ n ∧ n ≤ 60) : Spc Θ M_X3_renew 0 [.ref (Th.r Θ 20), .int (I f), .int (I n)] σ (fun _ σ' => σ' = fillM (up (up (up σ 20 1 0) 20 2 f) 20 3 n) 51 60 0) := by
  refine Spc_of (by decide +kernel) (Nat.le_of_ble_eq_true rfl) (fun Γ hB hE => ?_)
  show Run Θ Γ 0 [(0, .ref (Th.r Θ 20)), (1, .int (I f)), (2, .int (I n))] [] σ
  refine R_aload_n hB (j := 0) dX3_renew_0 rfl rfl ?_
  refine R_iconst hB dX3_renew_1 ?_
  refine N_putz hB fp_X3_15 dX3_renew_2 rfl (by omega) (fun σ1 e1 => ?_)
  refine R_aload_n hB (j := 0) dX3_renew_5 rfl rfl ?_
  refine R_iload_n hB (j := 1) dX3_renew_6 rfl rfl ?_
  refine N_puti hB fp_X3_19 dX3_renew_7 rfl (by omega) (fun σ2 e2 => ?_)
  refine R_aload_n hB (j := 0) dX3_renew_10 rfl rfl ?_
  refine R_iload_n hB (j := 2) dX3_renew_11 rfl rfl ?_
  refine N_puti hB fp_X3_23 dX3_renew_12 rfl (by omega) (fun σ3 e3 => ?_)
  refine R_aload_n hB (j := 0) dX3_renew_15 rfl rfl ?_
  refine R_getr hB (51) fl_X3_9 dX3_renew_16 rfl rfl ?_
  refine R_iconst hB dX3_renew_19 ?_
  refine R_cS0 hB (s_fill 51 60 _ (by omega) rfl) ms_X3_26 (by decide) dX3_renew_20 rfl rfl (Nat.le_of_ble_eq_true rfl) (fun σ4 h20 => ?_)
  exact R_vret hB hE rfl dX3_renew_23 (by rw [h20, e3, e2, e1]; rfl)

theorem s_enter_2 {Θ : Th} {σ : Mem} (i v : Int) (hi : 0 ≤ i ∧ i < 60) (hv : rng v) (hf : 0 ≤ σ 20 2 ∧ σ 20 2 < 3) : Spc Θ M_X3_enter 0 [.ref (Th.r Θ 20), .int (I i), .int (I v)] σ (fun _ σ' => σ' = up σ 51 i (cutF (σ 20 2) v)) := by
  refine Spc_of (by decide +kernel) (Nat.le_of_ble_eq_true rfl) (fun Γ hB hE => ?_)
  show Run Θ Γ 0 [(0, .ref (Th.r Θ 20)), (1, .int (I i)), (2, .int (I v))] [] σ
  refine R_aload_n hB (j := 0) dX3_enter_0 rfl rfl ?_
  refine R_geti hB fl_X3_19 dX3_enter_1 rfl ?_
  refine R_if_ne hB 18 (by omega) dX3_enter_4 rfl (fun h4 => ?_) (fun h4 => ?_)
  · refine R_aload_n hB (j := 0) dX3_enter_18 rfl rfl ?_
    refine R_getr hB (51) fl_X3_9 dX3_enter_19 rfl rfl ?_
    refine R_iload_n hB (j := 1) dX3_enter_22 rfl rfl ?_
    refine R_aload_n hB (j := 0) dX3_enter_23 rfl rfl ?_
    refine R_geti hB fl_X3_19 dX3_enter_24 rfl ?_
    refine R_iconst hB dX3_enter_27 ?_
    refine R_icmp_ne hB 36 (by omega) (by omega) dX3_enter_28 rfl (fun h28 => ?_) (fun h28 => ?_)
    · refine R_iload_n hB (j := 2) dX3_enter_36 rfl rfl ?_
      refine N_iast hB rfl (by omega) (by first | exact I_rng _ | exact hv) dX3_enter_37 (fun σ1 e1 => ?_)
      exact R_vret hB hE rfl dX3_enter_38 (by simp only [cutF]; first | (rw [if_pos h4]; assumption) | (rw [if_neg h4, if_pos h28]; assumption) | (rw [if_neg h4, if_neg h28]; assumption))
    · refine R_iload_n hB (j := 2) dX3_enter_31 rfl rfl ?_
      refine R_i2s hB (((I v).toInt16.toInt32).toInt) (I_of _).symm dX3_enter_32 ?_
      refine R_goto hB 37 dX3_enter_33 rfl ?_
      refine N_iast hB rfl (by omega) (by first | exact I_rng _ | exact hv) dX3_enter_37 (fun σ2 e2 => ?_)
      exact R_vret hB hE rfl dX3_enter_38 (by simp only [cutF]; first | (rw [if_pos h4]; assumption) | (rw [if_neg h4, if_pos h28]; assumption) | (rw [if_neg h4, if_neg h28]; assumption))
  · refine R_aload_n hB (j := 0) dX3_enter_7 rfl rfl ?_
    refine R_getr hB (51) fl_X3_9 dX3_enter_8 rfl rfl ?_
    refine R_iload_n hB (j := 1) dX3_enter_11 rfl rfl ?_
    refine R_iload_n hB (j := 2) dX3_enter_12 rfl rfl ?_
    refine R_i2b hB (((I v).toInt8.toInt32).toInt) (I_of _).symm dX3_enter_13 ?_
    refine N_iast hB rfl (by omega) (I_rng _) dX3_enter_14 (fun σ3 e3 => ?_)
    refine R_goto hB 38 dX3_enter_15 rfl ?_
    exact R_vret hB hE rfl dX3_enter_38 (by simp only [cutF]; first | (rw [if_pos h4]; assumption) | (rw [if_neg h4, if_pos h28]; assumption) | (rw [if_neg h4, if_neg h28]; assumption))

theorem s_renew_3 {Θ : Th} {σ : Mem} (f n : Int) (hf : 0 ≤ f ∧ f < 3) (hn : 0 ≤ n ∧ n ≤ 60) : Spc Θ M_X3_renew 0 [.ref (Th.r Θ 21), .int (I f), .int (I n)] σ (fun _ σ' => σ' = fillM (up (up (up σ 21 1 0) 21 2 f) 21 3 n) 52 60 0) := by
  refine Spc_of (by decide +kernel) (Nat.le_of_ble_eq_true rfl) (fun Γ hB hE => ?_)
  show Run Θ Γ 0 [(0, .ref (Th.r Θ 21)), (1, .int (I f)), (2, .int (I n))] [] σ
  refine R_aload_n hB (j := 0) dX3_renew_0 rfl rfl ?_
  refine R_iconst hB dX3_renew_1 ?_
  refine N_putz hB fp_X3_15 dX3_renew_2 rfl (by omega) (fun σ1 e1 => ?_)
  refine R_aload_n hB (j := 0) dX3_renew_5 rfl rfl ?_
  refine R_iload_n hB (j := 1) dX3_renew_6 rfl rfl ?_
  refine N_puti hB fp_X3_19 dX3_renew_7 rfl (by omega) (fun σ2 e2 => ?_)
  refine R_aload_n hB (j := 0) dX3_renew_10 rfl rfl ?_
  refine R_iload_n hB (j := 2) dX3_renew_11 rfl rfl ?_
  refine N_puti hB fp_X3_23 dX3_renew_12 rfl (by omega) (fun σ3 e3 => ?_)
  refine R_aload_n hB (j := 0) dX3_renew_15 rfl rfl ?_
  refine R_getr hB (52) fl_X3_9 dX3_renew_16 rfl rfl ?_
  refine R_iconst hB dX3_renew_19 ?_
  refine R_cS0 hB (s_fill 52 60 _ (by omega) rfl) ms_X3_26 (by decide) dX3_renew_20 rfl rfl (Nat.le_of_ble_eq_true rfl) (fun σ4 h20 => ?_)
  exact R_vret hB hE rfl dX3_renew_23 (by rw [h20, e3, e2, e1]; rfl)

theorem s_enter_3 {Θ : Th} {σ : Mem} (i v : Int) (hi : 0 ≤ i ∧ i < 60) (hv : rng v) (hf : 0 ≤ σ 21 2 ∧ σ 21 2 < 3) : Spc Θ M_X3_enter 0 [.ref (Th.r Θ 21), .int (I i), .int (I v)] σ (fun _ σ' => σ' = up σ 52 i (cutF (σ 21 2) v)) := by
  refine Spc_of (by decide +kernel) (Nat.le_of_ble_eq_true rfl) (fun Γ hB hE => ?_)
  show Run Θ Γ 0 [(0, .ref (Th.r Θ 21)), (1, .int (I i)), (2, .int (I v))] [] σ
  refine R_aload_n hB (j := 0) dX3_enter_0 rfl rfl ?_
  refine R_geti hB fl_X3_19 dX3_enter_1 rfl ?_
  refine R_if_ne hB 18 (by omega) dX3_enter_4 rfl (fun h4 => ?_) (fun h4 => ?_)
  · refine R_aload_n hB (j := 0) dX3_enter_18 rfl rfl ?_
    refine R_getr hB (52) fl_X3_9 dX3_enter_19 rfl rfl ?_
    refine R_iload_n hB (j := 1) dX3_enter_22 rfl rfl ?_
    refine R_aload_n hB (j := 0) dX3_enter_23 rfl rfl ?_
    refine R_geti hB fl_X3_19 dX3_enter_24 rfl ?_
    refine R_iconst hB dX3_enter_27 ?_
    refine R_icmp_ne hB 36 (by omega) (by omega) dX3_enter_28 rfl (fun h28 => ?_) (fun h28 => ?_)
    · refine R_iload_n hB (j := 2) dX3_enter_36 rfl rfl ?_
      refine N_iast hB rfl (by omega) (by first | exact I_rng _ | exact hv) dX3_enter_37 (fun σ1 e1 => ?_)
      exact R_vret hB hE rfl dX3_enter_38 (by simp only [cutF]; first | (rw [if_pos h4]; assumption) | (rw [if_neg h4, if_pos h28]; assumption) | (rw [if_neg h4, if_neg h28]; assumption))
    · refine R_iload_n hB (j := 2) dX3_enter_31 rfl rfl ?_
      refine R_i2s hB (((I v).toInt16.toInt32).toInt) (I_of _).symm dX3_enter_32 ?_
      refine R_goto hB 37 dX3_enter_33 rfl ?_
      refine N_iast hB rfl (by omega) (by first | exact I_rng _ | exact hv) dX3_enter_37 (fun σ2 e2 => ?_)
      exact R_vret hB hE rfl dX3_enter_38 (by simp only [cutF]; first | (rw [if_pos h4]; assumption) | (rw [if_neg h4, if_pos h28]; assumption) | (rw [if_neg h4, if_neg h28]; assumption))
  · refine R_aload_n hB (j := 0) dX3_enter_7 rfl rfl ?_
    refine R_getr hB (52) fl_X3_9 dX3_enter_8 rfl rfl ?_
    refine R_iload_n hB (j := 1) dX3_enter_11 rfl rfl ?_
    refine R_iload_n hB (j := 2) dX3_enter_12 rfl rfl ?_
    refine R_i2b hB (((I v).toInt8.toInt32).toInt) (I_of _).symm dX3_enter_13 ?_
    refine N_iast hB rfl (by omega) (I_rng _) dX3_enter_14 (fun σ3 e3 => ?_)
    refine R_goto hB 38 dX3_enter_15 rfl ?_
    exact R_vret hB hE rfl dX3_enter_38 (by simp only [cutF]; first | (rw [if_pos h4]; assumption) | (rw [if_neg h4, if_pos h28]; assumption) | (rw [if_neg h4, if_neg h28]; assumption))

theorem s_firstFault_0 {Θ : Th} {σ : Mem} (hn : 0 ≤ σ 16 3 ∧ σ 16 3 ≤ 39) (hb : ∀ k, 0 ≤ k → k < 39 → 0 ≤ σ 29 k ∧ σ 29 k < 256) (hg : ∀ k, 0 ≤ k → k < 3 → σ 31 k = gr 0 k) : Spc Θ M_X6_firstFault 1 [.ref (Th.r Θ 16)] σ (Pu σ (fun z => FFz 0 (σ 29) (σ 16 3) z)) := by
  refine Spc_of (by decide +kernel) (Nat.le_of_ble_eq_true rfl) (fun Γ hB hE => ?_)
  show Run Θ Γ 0 [(0, .ref (Th.r Θ 16))] [] σ
  refine R_iconst hB dX6_firstFault_0 ?_
  refine R_istore_n hB (L' := [_, _]) dX6_firstFault_1 rfl (Nat.le_of_ble_eq_true rfl) rfl ?_
  have lp_2 : ∀ (n_2 : Nat) (i : Int), ((39 - i).toNat) < n_2 → (0 ≤ i ∧ i ≤ σ 16 3) → (∀ j, 0 ≤ j → j < i → fitB 0 (σ 29 j) j = true) → Run Θ Γ 2 [(0, .ref (Th.r Θ 16)), (1, .int (I i))] [] σ := by
    intro n_2
    induction n_2 with
    | zero => intro i h_m; exact absurd h_m (Nat.not_lt_zero _)
    | succ n_2 ih_2 =>
      intro i h_m hi hI
      refine R_iload_n hB (j := 1) dX6_firstFault_2 rfl rfl ?_
      refine R_aload_n hB (j := 0) dX6_firstFault_3 rfl rfl ?_
      refine R_geti hB fl_X6_28 dX6_firstFault_4 rfl ?_
      refine R_icmp_ge hB 32 (by omega) (by omega) dX6_firstFault_7 rfl (fun h7 => ?_) (fun h7 => ?_)
      · refine R_aload_n hB (j := 0) dX6_firstFault_32 rfl rfl ?_
        refine R_geti hB fl_X6_28 dX6_firstFault_33 rfl ?_
        refine R_if_eq hB 49 (by omega) dX6_firstFault_36 rfl (fun h36 => ?_) (fun h36 => ?_)
        · refine R_iconst hB dX6_firstFault_49 ?_
          refine R_goto hB 57 dX6_firstFault_50 rfl ?_
          exact R_iret hB hE rfl dX6_firstFault_57 (⟨rfl, Or.inr ⟨fun j q1 q2 => hI j q1 (by omega), by split <;> omega⟩⟩)
        · refine R_aload_n hB (j := 0) dX6_firstFault_39 rfl rfl ?_
          refine R_geti hB fl_X6_28 dX6_firstFault_40 rfl ?_
          refine R_iconst hB dX6_firstFault_43 ?_
          refine R_irem hB ((σ 16 3) % (5)) (i_ne0 (by decide) (by decide)) (i_rem (by omega) (by omega)) dX6_firstFault_44 ?_
          refine R_iconst hB dX6_firstFault_45 ?_
          refine R_icmp_ne hB 53 (by omega) (by omega) dX6_firstFault_46 rfl (fun h46 => ?_) (fun h46 => ?_)
          · refine R_aload_n hB (j := 0) dX6_firstFault_53 rfl rfl ?_
            refine R_geti hB fl_X6_28 dX6_firstFault_54 rfl ?_
            exact R_iret hB hE rfl dX6_firstFault_57 (⟨rfl, Or.inr ⟨fun j q1 q2 => hI j q1 (by omega), by split <;> omega⟩⟩)
          · refine R_iconst hB dX6_firstFault_49 ?_
            refine R_goto hB 57 dX6_firstFault_50 rfl ?_
            exact R_iret hB hE rfl dX6_firstFault_57 (⟨rfl, Or.inr ⟨fun j q1 q2 => hI j q1 (by omega), by split <;> omega⟩⟩)
      · refine R_iload_n hB (j := 1) dX6_firstFault_10 rfl rfl ?_
        refine R_bipush hB dX6_firstFault_11 rfl ?_
        refine R_icmp_ge hB 32 (by omega) (by omega) dX6_firstFault_13 rfl (fun h13 => ?_) (fun h13 => ?_)
        · refine R_aload_n hB (j := 0) dX6_firstFault_32 rfl rfl ?_
          refine R_geti hB fl_X6_28 dX6_firstFault_33 rfl ?_
          refine R_if_eq hB 49 (by omega) dX6_firstFault_36 rfl (fun h36 => ?_) (fun h36 => ?_)
          · refine R_iconst hB dX6_firstFault_49 ?_
            refine R_goto hB 57 dX6_firstFault_50 rfl ?_
            exact R_iret hB hE rfl dX6_firstFault_57 (⟨rfl, Or.inr ⟨fun j q1 q2 => hI j q1 (by omega), by split <;> omega⟩⟩)
          · refine R_aload_n hB (j := 0) dX6_firstFault_39 rfl rfl ?_
            refine R_geti hB fl_X6_28 dX6_firstFault_40 rfl ?_
            refine R_iconst hB dX6_firstFault_43 ?_
            refine R_irem hB ((σ 16 3) % (5)) (i_ne0 (by decide) (by decide)) (i_rem (by omega) (by omega)) dX6_firstFault_44 ?_
            refine R_iconst hB dX6_firstFault_45 ?_
            refine R_icmp_ne hB 53 (by omega) (by omega) dX6_firstFault_46 rfl (fun h46 => ?_) (fun h46 => ?_)
            · refine R_aload_n hB (j := 0) dX6_firstFault_53 rfl rfl ?_
              refine R_geti hB fl_X6_28 dX6_firstFault_54 rfl ?_
              exact R_iret hB hE rfl dX6_firstFault_57 (⟨rfl, Or.inr ⟨fun j q1 q2 => hI j q1 (by omega), by split <;> omega⟩⟩)
            · refine R_iconst hB dX6_firstFault_49 ?_
              refine R_goto hB 57 dX6_firstFault_50 rfl ?_
              exact R_iret hB hE rfl dX6_firstFault_57 (⟨rfl, Or.inr ⟨fun j q1 q2 => hI j q1 (by omega), by split <;> omega⟩⟩)
        · refine R_aload_n hB (j := 0) dX6_firstFault_16 rfl rfl ?_
          refine R_iload_n hB (j := 1) dX6_firstFault_17 rfl rfl ?_
          refine P_cV1 hB (s_fits_0 _ (by omega) hb hg) mv_X6_32 rfl rfl (by decide) dX6_firstFault_18 rfl rfl (Nat.le_of_ble_eq_true rfl) (fun z18 h18 => ?_)
          refine R_if_ne hB 26 (by rw [h18]; split <;> omega) dX6_firstFault_21 rfl (fun h21 => ?_) (fun h21 => ?_)
          · have hfit : fitB 0 (σ 29 i) i = true := by
              cases hq : fitB 0 (σ 29 i) i with
              | true => rfl
              | false => rw [hq] at h18; simp at h18; omega
            refine R_iinc hB (j := 1) (L' := [_, _]) dX6_firstFault_26 rfl (Nat.le_of_ble_eq_true rfl) rfl ?_
            refine R_goto hB 2 dX6_firstFault_29 rfl ?_
            exact R_sub [1, 0] rfl (ih_2 _ (by omega) (by omega) (fun j q1 q2 => by
              by_cases c : j = i
              · rw [c]; exact hfit
              · exact hI j q1 (by omega)))
          · have hfit : fitB 0 (σ 29 i) i = false := by
              cases hq : fitB 0 (σ 29 i) i with
              | false => rfl
              | true => rw [hq] at h18; simp at h18; omega
            refine R_iload_n hB (j := 1) dX6_firstFault_24 rfl rfl ?_
            exact R_iret hB hE rfl dX6_firstFault_25 (⟨rfl, Or.inl ⟨hi.1, by omega, hfit, hI⟩⟩)
  exact R_sub [1, 0] rfl (lp_2 _ _ (Nat.lt_succ_self _) (by omega) (fun j q1 q2 => by omega))

theorem s_units_0 {Θ : Th} {σ : Mem} (hn : 0 ≤ σ 16 3 ∧ σ 16 3 ≤ 39) (hb : ∀ k, 0 ≤ k → k < 39 → 0 ≤ σ 29 k ∧ σ 29 k < 256) (hg : ∀ k, 0 ≤ k → k < 3 → σ 31 k = gr 0 k) : Spc Θ M_X6_units 1 [.ref (Th.r Θ 16)] σ (Pu σ (fun z => ∃ f, FFz 0 (σ 29) (σ 16 3) f ∧ z = if f = -1 then (σ 16 3 + 1) / 5 else 0)) := by
  refine Spc_of (by decide +kernel) (Nat.le_of_ble_eq_true rfl) (fun Γ hB hE => ?_)
  show Run Θ Γ 0 [(0, .ref (Th.r Θ 16))] [] σ
  refine R_aload_n hB (j := 0) dX6_units_0 rfl rfl ?_
  refine P_cV1 hB (s_firstFault_0 hn hb hg) mv_X6_36 rfl rfl (by decide) dX6_units_1 rfl rfl (Nat.le_of_ble_eq_true rfl) (fun z1 h1 => ?_)
  have hz1 : -1 ≤ z1 ∧ z1 ≤ 39 := by
    rcases h1 with h1 | h1
    · omega
    · have := h1.2; split at this <;> omega
  refine R_iconst hB dX6_units_4 ?_
  refine R_icmp_ne hB 24 (by omega) (by omega) dX6_units_5 rfl (fun h5 => ?_) (fun h5 => ?_)
  · refine R_iconst hB dX6_units_24 ?_
    exact R_iret hB hE rfl dX6_units_25 (⟨rfl, z1, h1, by first | (rw [if_pos h5]; omega) | (rw [if_neg h5])⟩)
  · refine R_bipush hB dX6_units_8 rfl ?_
    refine R_aload_n hB (j := 0) dX6_units_10 rfl rfl ?_
    refine R_geti hB fl_X6_28 dX6_units_11 rfl ?_
    refine R_iconst hB dX6_units_14 ?_
    refine R_iadd hB dX6_units_15 ?_
    refine R_iconst hB dX6_units_16 ?_
    refine R_idiv hB (((σ 16 3) + (1)) / (5)) (i_ne0 (by decide) (by decide)) (i_div (by omega) (by omega)) dX6_units_17 ?_
    refine P_min hB (by omega) (by omega) ms_X6_40 (by decide) dX6_units_18 (Nat.le_of_ble_eq_true rfl) ?_
    refine R_goto hB 25 dX6_units_21 rfl ?_
    exact R_iret hB hE rfl dX6_units_25 (⟨rfl, z1, h1, by first | (rw [if_pos h5]; omega) | (rw [if_neg h5])⟩)

theorem s_firstFault_1 {Θ : Th} {σ : Mem} (hn : 0 ≤ σ 17 3 ∧ σ 17 3 ≤ 39) (hb : ∀ k, 0 ≤ k → k < 39 → 0 ≤ σ 30 k ∧ σ 30 k < 256) (hg : ∀ k, 0 ≤ k → k < 3 → σ 32 k = gr 1 k) : Spc Θ M_X6_firstFault 1 [.ref (Th.r Θ 17)] σ (Pu σ (fun z => FFz 1 (σ 30) (σ 17 3) z)) := by
  refine Spc_of (by decide +kernel) (Nat.le_of_ble_eq_true rfl) (fun Γ hB hE => ?_)
  show Run Θ Γ 0 [(0, .ref (Th.r Θ 17))] [] σ
  refine R_iconst hB dX6_firstFault_0 ?_
  refine R_istore_n hB (L' := [_, _]) dX6_firstFault_1 rfl (Nat.le_of_ble_eq_true rfl) rfl ?_
  have lp_2 : ∀ (n_2 : Nat) (i : Int), ((39 - i).toNat) < n_2 → (0 ≤ i ∧ i ≤ σ 17 3) → (∀ j, 0 ≤ j → j < i → fitB 1 (σ 30 j) j = true) → Run Θ Γ 2 [(0, .ref (Th.r Θ 17)), (1, .int (I i))] [] σ := by
    intro n_2
    induction n_2 with
    | zero => intro i h_m; exact absurd h_m (Nat.not_lt_zero _)
    | succ n_2 ih_2 =>
      intro i h_m hi hI
      refine R_iload_n hB (j := 1) dX6_firstFault_2 rfl rfl ?_
      refine R_aload_n hB (j := 0) dX6_firstFault_3 rfl rfl ?_
      refine R_geti hB fl_X6_28 dX6_firstFault_4 rfl ?_
      refine R_icmp_ge hB 32 (by omega) (by omega) dX6_firstFault_7 rfl (fun h7 => ?_) (fun h7 => ?_)
      · refine R_aload_n hB (j := 0) dX6_firstFault_32 rfl rfl ?_
        refine R_geti hB fl_X6_28 dX6_firstFault_33 rfl ?_
        refine R_if_eq hB 49 (by omega) dX6_firstFault_36 rfl (fun h36 => ?_) (fun h36 => ?_)
        · refine R_iconst hB dX6_firstFault_49 ?_
          refine R_goto hB 57 dX6_firstFault_50 rfl ?_
          exact R_iret hB hE rfl dX6_firstFault_57 (⟨rfl, Or.inr ⟨fun j q1 q2 => hI j q1 (by omega), by split <;> omega⟩⟩)
        · refine R_aload_n hB (j := 0) dX6_firstFault_39 rfl rfl ?_
          refine R_geti hB fl_X6_28 dX6_firstFault_40 rfl ?_
          refine R_iconst hB dX6_firstFault_43 ?_
          refine R_irem hB ((σ 17 3) % (5)) (i_ne0 (by decide) (by decide)) (i_rem (by omega) (by omega)) dX6_firstFault_44 ?_
          refine R_iconst hB dX6_firstFault_45 ?_
          refine R_icmp_ne hB 53 (by omega) (by omega) dX6_firstFault_46 rfl (fun h46 => ?_) (fun h46 => ?_)
          · refine R_aload_n hB (j := 0) dX6_firstFault_53 rfl rfl ?_
            refine R_geti hB fl_X6_28 dX6_firstFault_54 rfl ?_
            exact R_iret hB hE rfl dX6_firstFault_57 (⟨rfl, Or.inr ⟨fun j q1 q2 => hI j q1 (by omega), by split <;> omega⟩⟩)
          · refine R_iconst hB dX6_firstFault_49 ?_
            refine R_goto hB 57 dX6_firstFault_50 rfl ?_
            exact R_iret hB hE rfl dX6_firstFault_57 (⟨rfl, Or.inr ⟨fun j q1 q2 => hI j q1 (by omega), by split <;> omega⟩⟩)
      · refine R_iload_n hB (j := 1) dX6_firstFault_10 rfl rfl ?_
        refine R_bipush hB dX6_firstFault_11 rfl ?_
        refine R_icmp_ge hB 32 (by omega) (by omega) dX6_firstFault_13 rfl (fun h13 => ?_) (fun h13 => ?_)
        · refine R_aload_n hB (j := 0) dX6_firstFault_32 rfl rfl ?_
          refine R_geti hB fl_X6_28 dX6_firstFault_33 rfl ?_
          refine R_if_eq hB 49 (by omega) dX6_firstFault_36 rfl (fun h36 => ?_) (fun h36 => ?_)
          · refine R_iconst hB dX6_firstFault_49 ?_
            refine R_goto hB 57 dX6_firstFault_50 rfl ?_
            exact R_iret hB hE rfl dX6_firstFault_57 (⟨rfl, Or.inr ⟨fun j q1 q2 => hI j q1 (by omega), by split <;> omega⟩⟩)
          · refine R_aload_n hB (j := 0) dX6_firstFault_39 rfl rfl ?_
            refine R_geti hB fl_X6_28 dX6_firstFault_40 rfl ?_
            refine R_iconst hB dX6_firstFault_43 ?_
            refine R_irem hB ((σ 17 3) % (5)) (i_ne0 (by decide) (by decide)) (i_rem (by omega) (by omega)) dX6_firstFault_44 ?_
            refine R_iconst hB dX6_firstFault_45 ?_
            refine R_icmp_ne hB 53 (by omega) (by omega) dX6_firstFault_46 rfl (fun h46 => ?_) (fun h46 => ?_)
            · refine R_aload_n hB (j := 0) dX6_firstFault_53 rfl rfl ?_
              refine R_geti hB fl_X6_28 dX6_firstFault_54 rfl ?_
              exact R_iret hB hE rfl dX6_firstFault_57 (⟨rfl, Or.inr ⟨fun j q1 q2 => hI j q1 (by omega), by split <;> omega⟩⟩)
            · refine R_iconst hB dX6_firstFault_49 ?_
              refine R_goto hB 57 dX6_firstFault_50 rfl ?_
              exact R_iret hB hE rfl dX6_firstFault_57 (⟨rfl, Or.inr ⟨fun j q1 q2 => hI j q1 (by omega), by split <;> omega⟩⟩)
        · refine R_aload_n hB (j := 0) dX6_firstFault_16 rfl rfl ?_
          refine R_iload_n hB (j := 1) dX6_firstFault_17 rfl rfl ?_
          refine P_cV1 hB (s_fits_1 _ (by omega) hb hg) mv_X6_32 rfl rfl (by decide) dX6_firstFault_18 rfl rfl (Nat.le_of_ble_eq_true rfl) (fun z18 h18 => ?_)
          refine R_if_ne hB 26 (by rw [h18]; split <;> omega) dX6_firstFault_21 rfl (fun h21 => ?_) (fun h21 => ?_)
          · have hfit : fitB 1 (σ 30 i) i = true := by
              cases hq : fitB 1 (σ 30 i) i with
              | true => rfl
              | false => rw [hq] at h18; simp at h18; omega
            refine R_iinc hB (j := 1) (L' := [_, _]) dX6_firstFault_26 rfl (Nat.le_of_ble_eq_true rfl) rfl ?_
            refine R_goto hB 2 dX6_firstFault_29 rfl ?_
            exact R_sub [1, 0] rfl (ih_2 _ (by omega) (by omega) (fun j q1 q2 => by
              by_cases c : j = i
              · rw [c]; exact hfit
              · exact hI j q1 (by omega)))
          · have hfit : fitB 1 (σ 30 i) i = false := by
              cases hq : fitB 1 (σ 30 i) i with
              | false => rfl
              | true => rw [hq] at h18; simp at h18; omega
            refine R_iload_n hB (j := 1) dX6_firstFault_24 rfl rfl ?_
            exact R_iret hB hE rfl dX6_firstFault_25 (⟨rfl, Or.inl ⟨hi.1, by omega, hfit, hI⟩⟩)
  exact R_sub [1, 0] rfl (lp_2 _ _ (Nat.lt_succ_self _) (by omega) (fun j q1 q2 => by omega))

theorem s_units_1 {Θ : Th} {σ : Mem} (hn : 0 ≤ σ 17 3 ∧ σ 17 3 ≤ 39) (hb : ∀ k, 0 ≤ k → k < 39 → 0 ≤ σ 30 k ∧ σ 30 k < 256) (hg : ∀ k, 0 ≤ k → k < 3 → σ 32 k = gr 1 k) : Spc Θ M_X6_units 1 [.ref (Th.r Θ 17)] σ (Pu σ (fun z => ∃ f, FFz 1 (σ 30) (σ 17 3) f ∧ z = if f = -1 then (σ 17 3 + 1) / 5 else 0)) := by
  refine Spc_of (by decide +kernel) (Nat.le_of_ble_eq_true rfl) (fun Γ hB hE => ?_)
  show Run Θ Γ 0 [(0, .ref (Th.r Θ 17))] [] σ
  refine R_aload_n hB (j := 0) dX6_units_0 rfl rfl ?_
  refine P_cV1 hB (s_firstFault_1 hn hb hg) mv_X6_36 rfl rfl (by decide) dX6_units_1 rfl rfl (Nat.le_of_ble_eq_true rfl) (fun z1 h1 => ?_)
  have hz1 : -1 ≤ z1 ∧ z1 ≤ 39 := by
    rcases h1 with h1 | h1
    · omega
    · have := h1.2; split at this <;> omega
  refine R_iconst hB dX6_units_4 ?_
  refine R_icmp_ne hB 24 (by omega) (by omega) dX6_units_5 rfl (fun h5 => ?_) (fun h5 => ?_)
  · refine R_iconst hB dX6_units_24 ?_
    exact R_iret hB hE rfl dX6_units_25 (⟨rfl, z1, h1, by first | (rw [if_pos h5]; omega) | (rw [if_neg h5])⟩)
  · refine R_bipush hB dX6_units_8 rfl ?_
    refine R_aload_n hB (j := 0) dX6_units_10 rfl rfl ?_
    refine R_geti hB fl_X6_28 dX6_units_11 rfl ?_
    refine R_iconst hB dX6_units_14 ?_
    refine R_iadd hB dX6_units_15 ?_
    refine R_iconst hB dX6_units_16 ?_
    refine R_idiv hB (((σ 17 3) + (1)) / (5)) (i_ne0 (by decide) (by decide)) (i_div (by omega) (by omega)) dX6_units_17 ?_
    refine P_min hB (by omega) (by omega) ms_X6_40 (by decide) dX6_units_18 (Nat.le_of_ble_eq_true rfl) ?_
    refine R_goto hB 25 dX6_units_21 rfl ?_
    exact R_iret hB hE rfl dX6_units_25 (⟨rfl, z1, h1, by first | (rw [if_pos h5]; omega) | (rw [if_neg h5])⟩)
