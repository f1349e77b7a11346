theorem s_in {Θ : Th} {σ : Mem} (v lo hi : Int) (hv : rng v) (hl : rng lo) (hh : rng hi) : Spc Θ M_X8_in 1 [.int (I v), .int (I lo), .int (I hi)] σ (Pu σ (fun z => z = if lo ≤ v ∧ v ≤ hi then 1 else 0)) := by
  refine Spc_of (by decide +kernel) (Nat.le_of_ble_eq_true rfl) (fun Γ hB hE => ?_)
  show Run Θ Γ 0 [(0, .int (I v)), (1, .int (I lo)), (2, .int (I hi))] [] σ
  refine R_iload_n hB (j := 0) dX8_in_0 rfl rfl ?_
  refine R_iload_n hB (j := 1) dX8_in_1 rfl rfl ?_
  refine R_icmp_lt hB 14 (by omega) (by omega) dX8_in_2 rfl (fun h2 => ?_) (fun h2 => ?_)
  · refine R_iconst hB dX8_in_14 ?_
    exact R_zret hB hE rfl (rfl) dX8_in_15 (⟨rfl, by split <;> omega⟩)
  · refine R_iload_n hB (j := 0) dX8_in_5 rfl rfl ?_
    refine R_iload_n hB (j := 2) dX8_in_6 rfl rfl ?_
    refine R_icmp_gt hB 14 (by omega) (by omega) dX8_in_7 rfl (fun h7 => ?_) (fun h7 => ?_)
    · refine R_iconst hB dX8_in_14 ?_
      exact R_zret hB hE rfl (rfl) dX8_in_15 (⟨rfl, by split <;> omega⟩)
    · refine R_iconst hB dX8_in_10 ?_
      refine R_goto hB 15 dX8_in_11 rfl ?_
      exact R_zret hB hE rfl (rfl) dX8_in_15 (⟨rfl, by split <;> omega⟩)

theorem s_isIn {Θ : Th} {σ : Mem} (b k : Int) (hb : rng b) (hk : 0 ≤ k ∧ k < 32) : Spc Θ M_X8_isIn 1 [.int (I b), .int (I k)] σ (Pu σ (fun z => z = if b / 2 ^ k.toNat % 2 = 1 then 1 else 0)) := by
  refine Spc_of (by decide +kernel) (Nat.le_of_ble_eq_true rfl) (fun Γ hB hE => ?_)
  show Run Θ Γ 0 [(0, .int (I b)), (1, .int (I k))] [] σ
  refine R_iload_n hB (j := 0) dX8_isIn_0 rfl rfl ?_
  refine R_iload_n hB (j := 1) dX8_isIn_1 rfl rfl ?_
  refine R_ishr hB ((b) / 2 ^ (k).toNat) (i_shr (by omega) (by omega)) dX8_isIn_2 ?_
  refine R_iconst hB dX8_isIn_3 ?_
  refine R_iand hB (((b) / 2 ^ (k).toNat) % 2) i_and1 dX8_isIn_4 ?_
  refine R_iconst hB dX8_isIn_5 ?_
  refine R_icmp_ne hB 13 (by omega) (by omega) dX8_isIn_6 rfl (fun h6 => ?_) (fun h6 => ?_)
  · refine R_iconst hB dX8_isIn_13 ?_
    exact R_zret hB hE rfl (rfl) dX8_isIn_14 (⟨rfl, by first | (rw [if_pos h6]) | (rw [if_neg h6])⟩)
  · refine R_iconst hB dX8_isIn_9 ?_
    refine R_goto hB 14 dX8_isIn_10 rfl ?_
    exact R_zret hB hE rfl (rfl) dX8_isIn_14 (⟨rfl, by first | (rw [if_pos h6]) | (rw [if_neg h6])⟩)

theorem pc8_cnt (b : Int) : pc8 b = cnt (fun k : Nat => decide (b / 2 ^ k % 2 = 1)) 8 := by
  have e : ∀ k : Nat, (if decide (b / 2 ^ k % 2 = 1) = true then (1 : Int) else 0) = b / 2 ^ k % 2 := fun k => by
    simp only [decide_eq_true_eq]
    split <;> omega
  simp only [cnt, e]
  unfold pc8
  simp

theorem s_ones {Θ : Th} {σ : Mem} (b : Int) (hb : rng b) : Spc Θ M_X8_ones 1 [.int (I b)] σ (Pu σ (fun z => z = pc8 b)) := by
  refine Spc_of (by decide +kernel) (Nat.le_of_ble_eq_true rfl) (fun Γ hB hE => ?_)
  show Run Θ Γ 0 [(0, .int (I b))] [] σ
  refine R_iconst hB dX8_ones_0 ?_
  refine R_istore_n hB (L' := [_, _]) dX8_ones_1 rfl (Nat.le_of_ble_eq_true rfl) rfl ?_
  refine R_iconst hB dX8_ones_2 ?_
  refine R_istore_n hB (L' := [_, _, _]) dX8_ones_3 rfl (Nat.le_of_ble_eq_true rfl) rfl ?_
  have lp_4 : ∀ (n_4 : Nat) (n k : Int), ((8 - k).toNat) < n_4 → (0 ≤ k ∧ k ≤ 8) → (n = cnt (fun k : Nat => decide (b / 2 ^ k % 2 = 1)) k.toNat) → Run Θ Γ 4 [(0, .int (I b)), (1, .int (I n)), (2, .int (I k))] [] σ := by
    intro n_4
    induction n_4 with
    | zero => intro n k h_m; exact absurd h_m (Nat.not_lt_zero _)
    | succ n_4 ih_4 =>
      intro n k h_m hk hn
      refine R_iload_n hB (j := 2) dX8_ones_4 rfl rfl ?_
      refine R_bipush hB dX8_ones_5 rfl ?_
      refine R_icmp_ge hB 24 (by omega) (by omega) dX8_ones_7 rfl (fun h7 => ?_) (fun h7 => ?_)
      · refine R_iload_n hB (j := 1) dX8_ones_24 rfl rfl ?_
        exact R_iret hB hE rfl dX8_ones_25 (⟨rfl, by rw [pc8_cnt, hn]; congr 1; omega⟩)
      · refine R_iload_n hB (j := 1) dX8_ones_10 rfl rfl ?_
        refine R_iload_n hB (j := 0) dX8_ones_11 rfl rfl ?_
        refine R_iload_n hB (j := 2) dX8_ones_12 rfl rfl ?_
        refine R_ishr hB ((b) / 2 ^ (k).toNat) (i_shr (by omega) (by omega)) dX8_ones_13 ?_
        refine R_iconst hB dX8_ones_14 ?_
        refine R_iand hB (((b) / 2 ^ (k).toNat) % 2) i_and1 dX8_ones_15 ?_
        refine R_iadd hB dX8_ones_16 ?_
        refine R_istore_n hB (L' := [_, _, _]) dX8_ones_17 rfl (Nat.le_of_ble_eq_true rfl) rfl ?_
        refine R_iinc hB (j := 2) (L' := [_, _, _]) dX8_ones_18 rfl (Nat.le_of_ble_eq_true rfl) rfl ?_
        refine R_goto hB 4 dX8_ones_21 rfl ?_
        exact R_sub [2, 1, 0] rfl (ih_4 _ _ (by omega) (by omega) (by
          rw [show (k + 1).toNat = k.toNat + 1 by omega]
          simp only [cnt, decide_eq_true_eq]
          rw [← hn]
          split <;> omega))
  exact R_sub [2, 1, 0] rfl (lp_4 _ _ _ (Nat.lt_succ_self _) (by omega) rfl)

theorem s_no {Θ : Th} {σ : Mem} (r : Int) (hr : rng r) : Spc Θ M_X8_no 2 [.int (I r)] σ (Pu σ (fun z => z = -9223372036854775808 - r)) := by
  refine Spc_of (by decide +kernel) (Nat.le_of_ble_eq_true rfl) (fun Γ hB hE => ?_)
  show Run Θ Γ 0 [(0, .int (I r))] [] σ
  refine R_ldc2 hB dX8_no_0 kl_X8_96 ?_
  refine R_iload_n hB (j := 0) dX8_no_3 rfl rfl ?_
  refine R_i2l hB (by omega) dX8_no_4 ?_
  refine R_lsub hB dX8_no_5 ?_
  exact R_lret hB hE rfl dX8_no_6 (⟨rfl, (by omega)⟩)

theorem s_misText {Θ : Th} {σ : Mem} (v : Int) (hv : rng v) : Spc Θ M_X8_isText 1 [.int (I v)] σ (Pu σ (fun z => z = if 0 ≤ v ∧ v < 2 then 1 else 0)) := by
  refine Spc_of (by decide +kernel) (Nat.le_of_ble_eq_true rfl) (fun Γ hB hE => ?_)
  show Run Θ Γ 0 [(0, .int (I v))] [] σ
  refine R_iload_n hB (j := 0) dX8_isText_0 rfl rfl ?_
  refine R_iconst hB dX8_isText_1 ?_
  refine R_iconst hB dX8_isText_2 ?_
  refine P_cS1 hB (s_in _ _ _ (by omega) (by omega) (by omega)) ms_X8_98 (by decide) dX8_isText_3 rfl rfl (Nat.le_of_ble_eq_true rfl) (fun z3 h3 => ?_)
  exact R_zret hB hE rfl (by rw [h3]; split <;> rfl) dX8_isText_6 (⟨rfl, by
    have hq9 := h3
    split at hq9 <;> split <;> omega⟩)

theorem s_misHour {Θ : Th} {σ : Mem} (v : Int) (hv : rng v) : Spc Θ M_X8_isHour 1 [.int (I v)] σ (Pu σ (fun z => z = if 0 ≤ v ∧ v < 50 then 1 else 0)) := by
  refine Spc_of (by decide +kernel) (Nat.le_of_ble_eq_true rfl) (fun Γ hB hE => ?_)
  show Run Θ Γ 0 [(0, .int (I v))] [] σ
  refine R_iload_n hB (j := 0) dX8_isHour_0 rfl rfl ?_
  refine R_iconst hB dX8_isHour_1 ?_
  refine R_bipush hB dX8_isHour_2 rfl ?_
  refine P_cS1 hB (s_in _ _ _ (by omega) (by omega) (by omega)) ms_X8_98 (by decide) dX8_isHour_4 rfl rfl (Nat.le_of_ble_eq_true rfl) (fun z4 h4 => ?_)
  exact R_zret hB hE rfl (by rw [h4]; split <;> rfl) dX8_isHour_7 (⟨rfl, by
    have hq9 := h4
    split at hq9 <;> split <;> omega⟩)

theorem s_misSheet {Θ : Th} {σ : Mem} (v : Int) (hv : rng v) : Spc Θ M_X8_isSheet 1 [.int (I v)] σ (Pu σ (fun z => z = if 0 ≤ v ∧ v < 4 then 1 else 0)) := by
  refine Spc_of (by decide +kernel) (Nat.le_of_ble_eq_true rfl) (fun Γ hB hE => ?_)
  show Run Θ Γ 0 [(0, .int (I v))] [] σ
  refine R_iload_n hB (j := 0) dX8_isSheet_0 rfl rfl ?_
  refine R_iconst hB dX8_isSheet_1 ?_
  refine R_iconst hB dX8_isSheet_2 ?_
  refine P_cS1 hB (s_in _ _ _ (by omega) (by omega) (by omega)) ms_X8_98 (by decide) dX8_isSheet_3 rfl rfl (Nat.le_of_ble_eq_true rfl) (fun z3 h3 => ?_)
  exact R_zret hB hE rfl (by rw [h3]; split <;> rfl) dX8_isSheet_6 (⟨rfl, by
    have hq9 := h3
    split at hq9 <;> split <;> omega⟩)
