theorem law_loop {Θ : Th} {Γ : Gm} {b L : Nat} {xs : Nat → Int32} (hW : LwB Θ Γ b L xs) : ∀ (n : Nat) (i : Int) (σ : Mem), (3080 - i).toNat < n → (0 ≤ i ∧ i ≤ 3078) → JJ σ → Run Θ Γ 18 (LL Θ b i) [] σ := by
  have hB := hW.1
  have hL3 := hW.2.2.2.2.1
  intro n
  induction n with
  | zero => intro i σ h; exact absurd h (Nat.not_lt_zero _)
  | succ n ih =>
    intro i σ hm hi hJ
    have kk : i + 6 ≤ L → ∀ σ', JJ σ' → Run Θ Γ 1201 (LL Θ b i) [] σ' := fun h6 σ' hJ' => by
      refine R_iinc hB (j := 3) (a := i) (L' := [(3, .int (I (i + 6))), (0, .ref b), (1, .ref (Th.r Θ 0)), (2, .ref (Th.r Θ 1))]) dL_law_1201 rfl (Nat.le_of_ble_eq_true rfl) rfl ?_
      refine R_goto hB 18 dL_law_1204 (by decide) ?_
      refine R_sub [1, 2, 3, 0] (L' := LL Θ b (i + 6)) rfl ?_
      exact ih (i + 6) σ' (by omega) (by omega) hJ'
    refine R_iload_n hB (j := 3) dL_law_18 rfl rfl ?_
    refine R_aload_n hB (j := 0) dL_law_19 rfl rfl ?_
    refine R_slen hW dL_law_20 ?_
    refine R_bipush hB dL_law_21 rfl ?_
    refine R_isub hB dL_law_23 ?_
    refine R_icmp_gt hB 1207 (by omega) (by omega) dL_law_24 (by decide) (fun c => ?_) (fun c => ?_)
    · refine R_iconst hB dL_law_1207 ?_
      exact R_lawret hW dL_law_1208
    · have h6 : 0 ≤ i ∧ i + 6 ≤ L := by omega
      have kk := kk h6.2
      refine R_aload_n hB (j := 0) dL_law_27 rfl rfl ?_
      refine R_iload_n hB (j := 3) dL_law_28 rfl rfl ?_
      refine R_sld hW (by omega) dL_law_29 ?_
      refine R_bipush hB dL_law_30 rfl ?_
      obtain ⟨z, hz, hr⟩ : ∃ z : Int, I (xq xs i) &&& I 63 = I z ∧ rng z := ⟨(I (xq xs i) &&& I 63).toInt, (I_of _).symm, I_rng _⟩
      refine R_iand hB z hz dL_law_32 ?_
      by_cases hc : z < 0 ∨ 32 < z
      · exact R_tsOut hB 1201 hr dL_law_33 hc (by decide) (kk σ hJ)
      · have hz33 : z = 0 ∨ z = 1 ∨ z = 2 ∨ z = 3 ∨ z = 4 ∨ z = 5 ∨ z = 6 ∨ z = 7 ∨ z = 8 ∨ z = 9 ∨ z = 10 ∨ z = 11 ∨ z = 12 ∨ z = 13 ∨ z = 14 ∨ z = 15 ∨ z = 16 ∨ z = 17 ∨ z = 18 ∨ z = 19 ∨ z = 20 ∨ z = 21 ∨ z = 22 ∨ z = 23 ∨ z = 24 ∨ z = 25 ∨ z = 26 ∨ z = 27 ∨ z = 28 ∨ z = 29 ∨ z = 30 ∨ z = 31 ∨ z = 32 := by omega
        rcases hz33 with q | q | q | q | q | q | q | q | q | q | q | q | q | q | q | q | q | q | q | q | q | q | q | q | q | q | q | q | q | q | q | q | q
        · exact R_tsIn hB 0 180 hr q dL_law_33 (by decide) (by decide) rfl (by decide) (lc_0 hW h6 hJ kk)
        · exact R_tsIn hB 1 213 hr q dL_law_33 (by decide) (by decide) rfl (by decide) (lc_1 hW h6 hJ kk)
        · exact R_tsIn hB 2 236 hr q dL_law_33 (by decide) (by decide) rfl (by decide) (lc_2 hW h6 hJ kk)
        · exact R_tsIn hB 3 259 hr q dL_law_33 (by decide) (by decide) rfl (by decide) (lc_3 hW h6 hJ kk)
        · exact R_tsIn hB 4 282 hr q dL_law_33 (by decide) (by decide) rfl (by decide) (lc_4 hW h6 hJ kk)
        · exact R_tsIn hB 5 315 hr q dL_law_33 (by decide) (by decide) rfl (by decide) (lc_5 hW h6 hJ kk)
        · exact R_tsIn hB 6 348 hr q dL_law_33 (by decide) (by decide) rfl (by decide) (lc_6 hW h6 hJ kk)
        · exact R_tsIn hB 7 381 hr q dL_law_33 (by decide) (by decide) rfl (by decide) (lc_7 hW h6 hJ kk)
        · exact R_tsIn hB 8 414 hr q dL_law_33 (by decide) (by decide) rfl (by decide) (lc_8 hW h6 hJ kk)
        · exact R_tsIn hB 9 457 hr q dL_law_33 (by decide) (by decide) rfl (by decide) (lc_9 hW h6 hJ kk)
        · exact R_tsIn hB 10 490 hr q dL_law_33 (by decide) (by decide) rfl (by decide) (lc_10 hW h6 hJ kk)
        · exact R_tsIn hB 11 523 hr q dL_law_33 (by decide) (by decide) rfl (by decide) (lc_11 hW h6 hJ kk)
        · exact R_tsIn hB 12 536 hr q dL_law_33 (by decide) (by decide) rfl (by decide) (lc_12 hW h6 hJ kk)
        · exact R_tsIn hB 13 549 hr q dL_law_33 (by decide) (by decide) rfl (by decide) (lc_13 hW h6 hJ kk)
        · exact R_tsIn hB 14 592 hr q dL_law_33 (by decide) (by decide) rfl (by decide) (lc_14 hW h6 hJ kk)
        · exact R_tsIn hB 15 625 hr q dL_law_33 (by decide) (by decide) rfl (by decide) (lc_15 hW h6 hJ kk)
        · exact R_tsIn hB 16 658 hr q dL_law_33 (by decide) (by decide) rfl (by decide) (lc_16 hW h6 hJ kk)
        · exact R_tsIn hB 17 691 hr q dL_law_33 (by decide) (by decide) rfl (by decide) (lc_17 hW h6 hJ kk)
        · exact R_tsIn hB 18 734 hr q dL_law_33 (by decide) (by decide) rfl (by decide) (lc_18 hW h6 hJ kk)
        · exact R_tsIn hB 19 747 hr q dL_law_33 (by decide) (by decide) rfl (by decide) (lc_19 hW h6 hJ kk)
        · exact R_tsIn hB 20 770 hr q dL_law_33 (by decide) (by decide) rfl (by decide) (lc_20 hW h6 hJ kk)
        · exact R_tsIn hB 21 783 hr q dL_law_33 (by decide) (by decide) rfl (by decide) (lc_21 hW h6 hJ kk)
        · exact R_tsIn hB 22 806 hr q dL_law_33 (by decide) (by decide) rfl (by decide) (lc_22 hW h6 hJ kk)
        · exact R_tsIn hB 23 819 hr q dL_law_33 (by decide) (by decide) rfl (by decide) (lc_23 hW h6 hJ kk)
        · exact R_tsIn hB 24 863 hr q dL_law_33 (by decide) (by decide) rfl (by decide) (lc_24 hW h6 hJ kk)
        · exact R_tsIn hB 25 906 hr q dL_law_33 (by decide) (by decide) rfl (by decide) (lc_25 hW h6 hJ kk)
        · exact R_tsIn hB 26 949 hr q dL_law_33 (by decide) (by decide) rfl (by decide) (lc_26 hW h6 hJ kk)
        · exact R_tsIn hB 27 972 hr q dL_law_33 (by decide) (by decide) rfl (by decide) (lc_27 hW h6 hJ kk)
        · exact R_tsIn hB 28 1025 hr q dL_law_33 (by decide) (by decide) rfl (by decide) (lc_28 hW h6 hJ kk)
        · exact R_tsIn hB 29 1068 hr q dL_law_33 (by decide) (by decide) rfl (by decide) (lc_29 hW h6 hJ kk)
        · exact R_tsIn hB 30 1131 hr q dL_law_33 (by decide) (by decide) rfl (by decide) (lc_30 hW h6 hJ kk)
        · exact R_tsIn hB 31 1164 hr q dL_law_33 (by decide) (by decide) rfl (by decide) (lc_31 hW h6 hJ kk)
        · exact R_tsIn hB 32 1187 hr q dL_law_33 (by decide) (by decide) rfl (by decide) (lc_32 hW h6 hJ kk)
