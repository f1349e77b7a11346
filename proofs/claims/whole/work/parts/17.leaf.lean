theorem s_within {Θ : Th} {σ : Mem} (v e : Int) (hv : rng v) (he : rng e) : Spc Θ M_X7_within 1 [.int (I v), .int (I e)] σ (Pu σ (fun z => z = if 0 ≤ v ∧ v < e then 1 else 0)) := by
  refine Spc_of (by decide +kernel) (Nat.le_of_ble_eq_true rfl) (fun Γ hB hE => ?_)
  show Run Θ Γ 0 [(0, .int (I v)), (1, .int (I e))] [] σ
  refine R_iload_n hB (j := 0) dX7_within_0 rfl rfl ?_
  refine R_if_lt hB 13 (by omega) dX7_within_1 rfl (fun h1 => ?_) (fun h1 => ?_)
  · refine R_iconst hB dX7_within_13 ?_
    exact R_zret hB hE rfl (rfl) dX7_within_14 (⟨rfl, by split <;> omega⟩)
  · refine R_iload_n hB (j := 0) dX7_within_4 rfl rfl ?_
    refine R_iload_n hB (j := 1) dX7_within_5 rfl rfl ?_
    refine R_icmp_ge hB 13 (by omega) (by omega) dX7_within_6 rfl (fun h6 => ?_) (fun h6 => ?_)
    · refine R_iconst hB dX7_within_13 ?_
      exact R_zret hB hE rfl (rfl) dX7_within_14 (⟨rfl, by split <;> omega⟩)
    · refine R_iconst hB dX7_within_9 ?_
      refine R_goto hB 14 dX7_within_10 rfl ?_
      exact R_zret hB hE rfl (rfl) dX7_within_14 (⟨rfl, by split <;> omega⟩)

theorem s_longRefusal {Θ : Th} {σ : Mem} (r : Int) (hr : rng r) : Spc Θ M_X7_longRefusal 2 [.int (I r)] σ (Pu σ (fun z => z = -9223372036854775808 - r)) := by
  refine Spc_of (by decide +kernel) (Nat.le_of_ble_eq_true rfl) (fun Γ hB hE => ?_)
  show Run Θ Γ 0 [(0, .int (I r))] [] σ
  refine R_ldc2 hB dX7_longRefusal_0 kl_X7_87 ?_
  refine R_iload_n hB (j := 0) dX7_longRefusal_3 rfl rfl ?_
  refine R_i2l hB (by omega) dX7_longRefusal_4 ?_
  refine R_lsub hB dX7_longRefusal_5 ?_
  exact R_lret hB hE rfl dX7_longRefusal_6 (⟨rfl, (by omega)⟩)

theorem s_nextSeed {Θ : Th} {σ : Mem} (x : Int) : Spc Θ M_X7_nextSeed 1 [.int (I x)] σ (Pu σ (fun z => z = 1103515245 * x + 12345)) := by
  refine Spc_of (by decide +kernel) (Nat.le_of_ble_eq_true rfl) (fun Γ hB hE => ?_)
  show Run Θ Γ 0 [(0, .int (I x))] [] σ
  refine R_ldcw hB dX7_nextSeed_0 kc_X7_293 ?_
  refine R_iload_n hB (j := 0) dX7_nextSeed_3 rfl rfl ?_
  refine R_imul hB dX7_nextSeed_4 ?_
  refine R_sipush hB dX7_nextSeed_5 rfl ?_
  refine R_iadd hB dX7_nextSeed_8 ?_
  exact R_iret hB hE rfl dX7_nextSeed_9 (⟨rfl, (by omega)⟩)

theorem s_lot {Θ : Th} {σ : Mem} (x n : Int) (hn : 0 < n ∧ n < 2147483648) : Spc Θ M_X7_lot 1 [.int (I x), .int (I n)] σ (Pu σ (fun z => z = x % 4294967296 / 65536 % n)) := by
  refine Spc_of (by decide +kernel) (Nat.le_of_ble_eq_true rfl) (fun Γ hB hE => ?_)
  show Run Θ Γ 0 [(0, .int (I x)), (1, .int (I n))] [] σ
  refine R_iload_n hB (j := 1) dX7_lot_0 rfl rfl ?_
  refine R_if_le hB 13 (by omega) dX7_lot_1 rfl (fun h1 => ?_) (fun h1 => ?_)
  · refine R_iconst hB dX7_lot_13 ?_
    exact R_iret hB hE rfl dX7_lot_14 (⟨rfl, (by omega)⟩)
  · refine R_iload_n hB (j := 0) dX7_lot_4 rfl rfl ?_
    refine R_bipush hB dX7_lot_5 rfl ?_
    refine R_iushr hB (x % 4294967296 / 65536) (i_ush16 _) dX7_lot_7 ?_
    refine R_iload_n hB (j := 1) dX7_lot_8 rfl rfl ?_
    refine R_irem hB ((x % 4294967296 / 65536) % (n)) (i_ne0 (by omega) (by omega)) (i_rem (by omega) (by omega)) dX7_lot_9 ?_
    refine R_goto hB 14 dX7_lot_10 rfl ?_
    exact R_iret hB hE rfl dX7_lot_14 (⟨rfl, (by omega)⟩)

theorem s_found {Θ : Th} {σ : Mem} (n : Int) (hn : 0 ≤ n ∧ n < 100) : Spc Θ M_X7_found 1 [.ref (Th.r Θ 0), .int (I n)] σ (fun z σ' => z = -10 - n ∧ σ' = up σ 0 7 n) := by
  refine Spc_of (by decide +kernel) (Nat.le_of_ble_eq_true rfl) (fun Γ hB hE => ?_)
  show Run Θ Γ 0 [(0, .ref (Th.r Θ 0)), (1, .int (I n))] [] σ
  refine R_aload_n hB (j := 0) dX7_found_0 rfl rfl ?_
  refine R_iload_n hB (j := 1) dX7_found_1 rfl rfl ?_
  refine N_puti hB fp_X7_294 dX7_found_2 rfl (by omega) (fun σ1 e1 => ?_)
  refine R_bipush hB dX7_found_5 rfl ?_
  refine R_iload_n hB (j := 1) dX7_found_7 rfl rfl ?_
  refine R_isub hB dX7_found_8 ?_
  exact R_iret hB hE rfl dX7_found_9 (⟨rfl, e1⟩)

def ixT (t : Nat) (c : Int) : Int := if c = tbl t 0 then 0 else if c = tbl t 1 then 1 else if c = tbl t 2 then 2 else if c = tbl t 3 then 3 else -1
theorem tbl_in {t : Nat} (ht : t < 2) {x : Int} (hx : 0 ≤ x ∧ x < 4) : 99 < tbl t x ∧ tbl t x < 122 := by
  have h4 : x.toNat < 4 := by omega
  have k : ∀ t : Nat, t < 2 → ∀ n : Nat, n < 4 → 99 < tbl t n ∧ tbl t n < 122 := by decide
  have := k t ht x.toNat h4
  rwa [show ((x.toNat : Nat) : Int) = x by omega] at this

theorem s_canEncode {Θ : Th} {σ : Mem} (c : Int) (hc : 0 ≤ c ∧ c < 256) : Spc Θ M_J1_canEncode_9a6ad 1 [.int (I c)] σ (Pu σ (fun z => z = 1)) := by
  refine Spc_of (by decide +kernel) (Nat.le_of_ble_eq_true rfl) (fun Γ hB hE => ?_)
  show Run Θ Γ 0 [(0, .int (I c))] [] σ
  refine R_iload_n hB (j := 0) dJ1_canEncode_9a6ad_0 rfl rfl ?_
  refine R_if_lt hB 15 (by omega) dJ1_canEncode_9a6ad_1 rfl (fun h1 => ?_) (fun h1 => ?_)
  · exfalso; omega
  · refine R_iload_n hB (j := 0) dJ1_canEncode_9a6ad_4 rfl rfl ?_
    refine R_sipush hB dJ1_canEncode_9a6ad_5 rfl ?_
    refine R_icmp_gt hB 15 (by omega) (by omega) dJ1_canEncode_9a6ad_8 rfl (fun h8 => ?_) (fun h8 => ?_)
    · exfalso; omega
    · refine R_iconst hB dJ1_canEncode_9a6ad_11 ?_
      refine R_goto hB 16 dJ1_canEncode_9a6ad_12 rfl ?_
      exact R_zret hB hE rfl (rfl) dJ1_canEncode_9a6ad_16 (⟨rfl, (by omega)⟩)

theorem s_indexOfChar {Θ : Th} {σ : Mem} (t : Nat) (ht : t < 2) (c : Int) (hc : 0 ≤ c ∧ c < 256) : Spc Θ M_J1_indexOfChar_4cfef 1 [.ref (Th.by Θ t), .int (I c), .int (I 0), .int (I 4)] σ (Pu σ (fun z => z = ixT t c)) := by
  refine Spc_of (by decide +kernel) (Nat.le_of_ble_eq_true rfl) (fun Γ hB hE => ?_)
  show Run Θ Γ 0 [(0, .ref (Th.by Θ t)), (1, .int (I c)), (2, .int (I 0)), (3, .int (I 4))] [] σ
  have q0 := tbl_in ht (x := 0) (by omega)
  have q1 := tbl_in ht (x := 1) (by omega)
  have q2 := tbl_in ht (x := 2) (by omega)
  have q3 := tbl_in ht (x := 3) (by omega)
  refine R_iload_n hB (j := 1) dJ1_indexOfChar_4cfef_0 rfl rfl ?_
  refine R_i2b hB (if c < 128 then c else c - 256) (i_b hc) dJ1_indexOfChar_4cfef_1 ?_
  refine R_istore hB (L' := [_, _, _, _, _]) dJ1_indexOfChar_4cfef_2 (Nat.le_of_ble_eq_true rfl) rfl ?_
  refine R_iload_n hB (j := 3) dJ1_indexOfChar_4cfef_4 rfl rfl ?_
  refine R_istore hB (L' := [_, _, _, _, _, _]) dJ1_indexOfChar_4cfef_5 (Nat.le_of_ble_eq_true rfl) rfl ?_
  have lp_7 : ∀ (n_7 : Nat) (i : Int), ((4 - i).toNat) < n_7 → (0 ≤ i ∧ i ≤ 4) → (∀ j : Int, 0 ≤ j → j < i → c ≠ tbl t j) → Run Θ Γ 7 [(0, .ref (Th.by Θ t)), (1, .int (I c)), (2, .int (I 0)), (3, .int (I 4)), (4, .int (I (if c < 128 then c else c - 256))), (5, .int (I i))] [] σ := by
    intro n_7
    induction n_7 with
    | zero => intro i h_m; exact absurd h_m (Nat.not_lt_zero _)
    | succ n_7 ih_7 =>
      intro i h_m hi hI
      refine R_iload hB (j := 5) dJ1_indexOfChar_4cfef_7 rfl ?_
      refine R_iload_n hB (j := 3) dJ1_indexOfChar_4cfef_9 rfl rfl ?_
      refine R_icmp_ge hB 31 (by omega) (by omega) dJ1_indexOfChar_4cfef_10 rfl (fun h10 => ?_) (fun h10 => ?_)
      · refine R_iconst hB dJ1_indexOfChar_4cfef_31 ?_
        exact R_iret hB hE rfl dJ1_indexOfChar_4cfef_32 (⟨rfl, by
          have a0 := hI 0 (by omega) (by omega)
          have a1 := hI 1 (by omega) (by omega)
          have a2 := hI 2 (by omega) (by omega)
          have a3 := hI 3 (by omega) (by omega)
          unfold ixT
          rw [if_neg a0, if_neg a1, if_neg a2, if_neg a3]⟩)
      · refine R_aload_n hB (j := 0) dJ1_indexOfChar_4cfef_13 rfl rfl ?_
        refine R_iload hB (j := 5) dJ1_indexOfChar_4cfef_14 rfl ?_
        refine R_tbld hB ht (by omega) dJ1_indexOfChar_4cfef_16 ?_
        refine R_iload hB (j := 4) dJ1_indexOfChar_4cfef_17 rfl ?_
        refine R_icmp_ne hB 25 (by have := tbl_in ht (x := i) (by omega); omega) (by split <;> omega) dJ1_indexOfChar_4cfef_19 rfl (fun h19 => ?_) (fun h19 => ?_)
        · refine R_iinc hB (j := 5) (L' := [_, _, _, _, _, _]) dJ1_indexOfChar_4cfef_25 rfl (Nat.le_of_ble_eq_true rfl) rfl ?_
          refine R_goto hB 7 dJ1_indexOfChar_4cfef_28 rfl ?_
          exact R_sub [1, 2, 3, 4, 5, 0] rfl (ih_7 _ (by omega) (by omega) (fun j h1 h2 => by
            by_cases hj : j = i
            · subst hj
              intro hq
              have := tbl_in ht (x := j) (by omega)
              split at h19 <;> omega
            · exact hI j h1 (by omega)))
        · refine R_iload hB (j := 5) dJ1_indexOfChar_4cfef_22 rfl ?_
          exact R_iret hB hE rfl dJ1_indexOfChar_4cfef_24 (⟨rfl, by
            have hc2 : c = tbl t i := by
              have := tbl_in ht (x := i) (by omega)
              split at h19 <;> omega
            unfold ixT
            rcases (show i = 0 ∨ i = 1 ∨ i = 2 ∨ i = 3 by omega) with rfl | rfl | rfl | rfl
            · rw [if_pos hc2]
            · rw [if_neg (hI 0 (by omega) (by omega)), if_pos hc2]
            · rw [if_neg (hI 0 (by omega) (by omega)), if_neg (hI 1 (by omega) (by omega)), if_pos hc2]
            · rw [if_neg (hI 0 (by omega) (by omega)), if_neg (hI 1 (by omega) (by omega)), if_neg (hI 2 (by omega) (by omega)), if_pos hc2]⟩)
  exact R_sub [2, 3, 4, 5, 1, 0] rfl (lp_7 _ _ (Nat.lt_succ_self _) (by omega) (fun j h1 h2 => by omega))

theorem s_latinIndexOf {Θ : Th} {σ : Mem} (t : Nat) (ht : t < 2) (c : Int) (hc : 0 ≤ c ∧ c < 256) : Spc Θ M_J1_indexOf_4cfef 1 [.ref (Th.by Θ t), .int (I c), .int (I 0), .int (I 4)] σ (Pu σ (fun z => z = ixT t c)) := by
  refine Spc_of (by decide +kernel) (Nat.le_of_ble_eq_true rfl) (fun Γ hB hE => ?_)
  show Run Θ Γ 0 [(0, .ref (Th.by Θ t)), (1, .int (I c)), (2, .int (I 0)), (3, .int (I 4))] [] σ
  refine R_iload_n hB (j := 1) dJ1_indexOf_4cfef_0 rfl rfl ?_
  refine P_cS1 hB (s_canEncode _ (by omega)) ms_J1_88 (by decide) dJ1_indexOf_4cfef_1 rfl rfl (Nat.le_of_ble_eq_true rfl) (fun z1 h1 => ?_)
  subst h1
  refine R_if_ne hB 9 (by omega) dJ1_indexOf_4cfef_4 rfl (fun h4 => ?_) (fun h4 => ?_)
  · refine R_iload_n hB (j := 2) dJ1_indexOf_4cfef_9 rfl rfl ?_
    refine R_iconst hB dJ1_indexOf_4cfef_10 ?_
    refine P_max hB (by omega) (by omega) ms_J1_92 (by decide) dJ1_indexOf_4cfef_11 (Nat.le_of_ble_eq_true rfl) ?_
    refine R_istore_n hB (L' := [_, _, _, _]) dJ1_indexOf_4cfef_14 rfl (Nat.le_of_ble_eq_true rfl) rfl ?_
    refine R_iload_n hB (j := 3) dJ1_indexOf_4cfef_15 rfl rfl ?_
    refine R_aload_n hB (j := 1) dJ1_indexOf_4cfef_16 rfl rfl ?_
    refine R_tblen hB ht dJ1_indexOf_4cfef_17 ?_
    refine P_min hB (by omega) (by omega) ms_J1_38 (by decide) dJ1_indexOf_4cfef_18 (Nat.le_of_ble_eq_true rfl) ?_
    refine R_istore_n hB (L' := [_, _, _, _]) dJ1_indexOf_4cfef_21 rfl (Nat.le_of_ble_eq_true rfl) rfl ?_
    refine R_iload_n hB (j := 1) dJ1_indexOf_4cfef_22 rfl rfl ?_
    refine R_iload_n hB (j := 0) dJ1_indexOf_4cfef_23 rfl rfl ?_
    refine R_icmp_lt hB 29 (by omega) (by omega) dJ1_indexOf_4cfef_24 rfl (fun h24 => ?_) (fun h24 => ?_)
    · refine R_aload_n hB (j := 2) dJ1_indexOf_4cfef_29 rfl rfl ?_
      refine R_iload_n hB (j := 3) dJ1_indexOf_4cfef_30 rfl rfl ?_
      refine R_iload_n hB (j := 1) dJ1_indexOf_4cfef_31 rfl rfl ?_
      refine R_iload_n hB (j := 0) dJ1_indexOf_4cfef_32 rfl rfl ?_
      refine P_cS1 hB (show Spc Θ M_J1_indexOfChar_4cfef 1 [.ref (Th.by Θ t), .int (I c), .int (I (max 0 0)), .int (I (min 4 4))] σ (Pu σ (fun z => z = ixT t c)) from s_indexOfChar t ht c (by omega)) ms_J1_95 (by decide) dJ1_indexOf_4cfef_33 rfl rfl (Nat.le_of_ble_eq_true rfl) (fun z33 h33 => ?_)
      exact R_iret hB hE rfl dJ1_indexOf_4cfef_36 (⟨rfl, h33⟩)
    · exfalso; omega
  · exfalso; omega

theorem s_coder {Θ : Th} {σ : Mem} (t : Nat) (ht : t < 2) : Spc Θ M_J0_coder_7d493 1 [.ref (Th.tx Θ t)] σ (Pu σ (fun z => z = 0)) := by
  refine Spc_of (by decide +kernel) (Nat.le_of_ble_eq_true rfl) (fun Γ hB hE => ?_)
  show Run Θ Γ 0 [(0, .ref (Th.tx Θ t))] [] σ
  refine R_gcs hB jf_J0_38 dJ0_coder_7d493_0 ?_
  refine R_if_eq hB 13 (by omega) dJ0_coder_7d493_3 rfl (fun h3 => ?_) (fun h3 => ?_)
  · exfalso; omega
  · refine R_aload_n hB (j := 0) dJ0_coder_7d493_6 rfl rfl ?_
    refine R_gtc hB ht jf_J0_15 dJ0_coder_7d493_7 ?_
    refine R_goto hB 14 dJ0_coder_7d493_10 rfl ?_
    exact R_zret hB hE rfl (rfl) dJ0_coder_7d493_14 (⟨rfl, (by omega)⟩)

theorem s_isLatin1 {Θ : Th} {σ : Mem} (t : Nat) (ht : t < 2) : Spc Θ M_J0_isLatin1_aae02 1 [.ref (Th.tx Θ t)] σ (Pu σ (fun z => z = 1)) := by
  refine Spc_of (by decide +kernel) (Nat.le_of_ble_eq_true rfl) (fun Γ hB hE => ?_)
  show Run Θ Γ 0 [(0, .ref (Th.tx Θ t))] [] σ
  refine R_gcs hB jf_J0_38 dJ0_isLatin1_aae02_0 ?_
  refine R_if_eq hB 17 (by omega) dJ0_isLatin1_aae02_3 rfl (fun h3 => ?_) (fun h3 => ?_)
  · exfalso; omega
  · refine R_aload_n hB (j := 0) dJ0_isLatin1_aae02_6 rfl rfl ?_
    refine R_gtc hB ht jf_J0_15 dJ0_isLatin1_aae02_7 ?_
    refine R_if_ne hB 17 (by omega) dJ0_isLatin1_aae02_10 rfl (fun h10 => ?_) (fun h10 => ?_)
    · exfalso; omega
    · refine R_iconst hB dJ0_isLatin1_aae02_13 ?_
      refine R_goto hB 18 dJ0_isLatin1_aae02_14 rfl ?_
      exact R_zret hB hE rfl (rfl) dJ0_isLatin1_aae02_18 (⟨rfl, (by omega)⟩)

theorem s_length {Θ : Th} {σ : Mem} (t : Nat) (ht : t < 2) : Spc Θ M_J0_length_8abf5 1 [.ref (Th.tx Θ t)] σ (Pu σ (fun z => z = 4)) := by
  refine Spc_of (by decide +kernel) (Nat.le_of_ble_eq_true rfl) (fun Γ hB hE => ?_)
  show Run Θ Γ 0 [(0, .ref (Th.tx Θ t))] [] σ
  refine R_aload_n hB (j := 0) dJ0_length_8abf5_0 rfl rfl ?_
  refine R_gtv hB ht jf_J0_9 dJ0_length_8abf5_1 ?_
  refine R_tblen hB ht dJ0_length_8abf5_4 ?_
  refine R_aload_n hB (j := 0) dJ0_length_8abf5_5 rfl rfl ?_
  refine P_cT1 hB (s_coder t ht) mv_J0_335 ht rfl (by decide) dJ0_length_8abf5_6 rfl rfl (Nat.le_of_ble_eq_true rfl) (fun z6 h6 => ?_)
  subst h6
  refine R_ishr hB (4) rfl dJ0_length_8abf5_9 ?_
  exact R_iret hB hE rfl dJ0_length_8abf5_10 (⟨rfl, (by omega)⟩)

theorem s_indexOf2 {Θ : Th} {σ : Mem} (t : Nat) (ht : t < 2) (c : Int) (hc : 0 ≤ c ∧ c < 256) : Spc Θ M_J0_indexOf_7cf53 1 [.ref (Th.tx Θ t), .int (I c), .int (I 0)] σ (Pu σ (fun z => z = ixT t c)) := by
  refine Spc_of (by decide +kernel) (Nat.le_of_ble_eq_true rfl) (fun Γ hB hE => ?_)
  show Run Θ Γ 0 [(0, .ref (Th.tx Θ t)), (1, .int (I c)), (2, .int (I 0))] [] σ
  refine R_aload_n hB (j := 0) dJ0_indexOf_7cf53_0 rfl rfl ?_
  refine P_cT1 hB (s_isLatin1 t ht) mv_J0_492 ht rfl (by decide) dJ0_indexOf_7cf53_1 rfl rfl (Nat.le_of_ble_eq_true rfl) (fun z1 h1 => ?_)
  subst h1
  refine R_if_eq hB 23 (by omega) dJ0_indexOf_7cf53_4 rfl (fun h4 => ?_) (fun h4 => ?_)
  · exfalso; omega
  · refine R_aload_n hB (j := 0) dJ0_indexOf_7cf53_7 rfl rfl ?_
    refine R_gtv hB ht jf_J0_9 dJ0_indexOf_7cf53_8 ?_
    refine R_iload_n hB (j := 1) dJ0_indexOf_7cf53_11 rfl rfl ?_
    refine R_iload_n hB (j := 2) dJ0_indexOf_7cf53_12 rfl rfl ?_
    refine R_aload_n hB (j := 0) dJ0_indexOf_7cf53_13 rfl rfl ?_
    refine P_cT1 hB (s_length t ht) mv_J0_505 ht rfl (by decide) dJ0_indexOf_7cf53_14 rfl rfl (Nat.le_of_ble_eq_true rfl) (fun z14 h14 => ?_)
    subst h14
    refine P_cS1 hB (s_latinIndexOf t ht _ (by omega)) ms_J0_637 (by decide) dJ0_indexOf_7cf53_17 rfl rfl (Nat.le_of_ble_eq_true rfl) (fun z17 h17 => ?_)
    refine R_goto hB 36 dJ0_indexOf_7cf53_20 rfl ?_
    exact R_iret hB hE rfl dJ0_indexOf_7cf53_36 (⟨rfl, h17⟩)

theorem s_indexOf {Θ : Th} {σ : Mem} (t : Nat) (ht : t < 2) (c : Int) (hc : 0 ≤ c ∧ c < 256) : Spc Θ M_J0_indexOf_0f7a4 1 [.ref (Th.tx Θ t), .int (I c)] σ (Pu σ (fun z => z = ixT t c)) := by
  refine Spc_of (by decide +kernel) (Nat.le_of_ble_eq_true rfl) (fun Γ hB hE => ?_)
  show Run Θ Γ 0 [(0, .ref (Th.tx Θ t)), (1, .int (I c))] [] σ
  refine R_aload_n hB (j := 0) dJ0_indexOf_0f7a4_0 rfl rfl ?_
  refine R_iload_n hB (j := 1) dJ0_indexOf_0f7a4_1 rfl rfl ?_
  refine R_iconst hB dJ0_indexOf_0f7a4_2 ?_
  refine P_cT1 hB (s_indexOf2 t ht _ (by omega)) mv_J0_633 ht rfl (by decide) dJ0_indexOf_0f7a4_3 rfl rfl (Nat.le_of_ble_eq_true rfl) (fun z3 h3 => ?_)
  exact R_iret hB hE rfl dJ0_indexOf_0f7a4_6 (⟨rfl, h3⟩)
