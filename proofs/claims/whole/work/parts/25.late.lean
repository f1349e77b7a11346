theorem s_wokenOfLate {Θ : Th} {σ : Mem} (hour si : Int) (hh : 0 ≤ hour ∧ hour < 50) (hs : 0 ≤ si ∧ si ≤ 9) (hb : 0 ≤ σ 5 8 ∧ σ 5 8 < 1125899906842624) : Spc Θ M_X2_wokenOfLate 1 [.ref (Th.r Θ 5), .int (I hour), .int (I si)] σ (Pu σ (fun z => z = if σ 5 8 / 2 ^ (max 0 (hour - si)).toNat % 2 ^ (hour - max 0 (hour - si) + 1).toNat = 0 then 0 else 1)) := by
  refine Spc_of (by decide +kernel) (Nat.le_of_ble_eq_true rfl) (fun Γ hB hE => ?_)
  show Run Θ Γ 0 [(0, .ref (Th.r Θ 5)), (1, .int (I hour)), (2, .int (I si))] [] σ
  refine R_iconst hB dX2_wokenOfLate_0 ?_
  refine R_iload_n hB (j := 1) dX2_wokenOfLate_1 rfl rfl ?_
  refine R_iload_n hB (j := 2) dX2_wokenOfLate_2 rfl rfl ?_
  refine R_isub hB dX2_wokenOfLate_3 ?_
  refine P_max hB (by omega) (by omega) ms_X2_103 (by decide) dX2_wokenOfLate_4 (Nat.le_of_ble_eq_true rfl) ?_
  refine R_nmi (fun f hf => ?_)
  refine R_istore_n hB (L' := [_, _, _, _]) dX2_wokenOfLate_7 rfl (Nat.le_of_ble_eq_true rfl) rfl ?_
  refine R_lconst hB (z := 1) dX2_wokenOfLate_8 rfl ?_
  refine R_iload_n hB (j := 2) dX2_wokenOfLate_9 rfl rfl ?_
  refine R_iload_n hB (j := 0) dX2_wokenOfLate_10 rfl rfl ?_
  refine R_isub hB dX2_wokenOfLate_11 ?_
  refine R_iconst hB dX2_wokenOfLate_12 ?_
  refine R_iadd hB dX2_wokenOfLate_13 ?_
  refine R_lshl hB (2 ^ (((hour) - (f)) + (1)).toNat) (j_shl1z (by omega)) dX2_wokenOfLate_14 ?_
  refine R_lconst hB (z := 1) dX2_wokenOfLate_15 rfl ?_
  refine R_lsub hB dX2_wokenOfLate_16 ?_
  refine R_lstore hB (L' := [_, _, _, _, _]) dX2_wokenOfLate_17 (Nat.le_of_ble_eq_true rfl) rfl ?_
  refine R_aload_n hB (j := 2) dX2_wokenOfLate_19 rfl rfl ?_
  refine R_getl hB fl_X2_74 dX2_wokenOfLate_20 rfl ?_
  refine R_iload_n hB (j := 1) dX2_wokenOfLate_23 rfl rfl ?_
  refine R_lshr hB (σ 5 8 / 2 ^ (f).toNat) (j_shr (by omega) (by omega)) dX2_wokenOfLate_24 ?_
  refine R_lload hB (j := 0) dX2_wokenOfLate_25 rfl ?_
  have hd0 : 0 ≤ σ 5 8 / 2 ^ f.toNat := Int.ediv_nonneg hb.1 (Int.le_of_lt (p2_pos _))
  have hd1 : σ 5 8 / 2 ^ f.toNat ≤ σ 5 8 := Int.ediv_le_self _ hb.1
  refine R_land hB ((σ 5 8 / 2 ^ (f).toNat) % 2 ^ (hour - f + 1).toNat) (j_mask (by omega) (by omega)) dX2_wokenOfLate_27 ?_
  have hd2 := Int.emod_nonneg (σ 5 8 / 2 ^ f.toNat) (Int.ne_of_gt (p2_pos (hour - f + 1).toNat))
  have hd3 : σ 5 8 / 2 ^ f.toNat % 2 ^ (hour - f + 1).toNat < 2 ^ (hour - f + 1).toNat := Int.emod_lt_of_pos _ (p2_pos _)
  have hd4 := p2_lt (hour - f + 1).toNat (by omega)
  subst hf
  refine R_lconst hB (z := 0) dX2_wokenOfLate_28 rfl ?_
  refine R_lcmp hB (by omega) (by omega) dX2_wokenOfLate_29 ?_
  refine R_if_eq hB 37 (by split <;> (try split) <;> omega) dX2_wokenOfLate_30 rfl (fun h30 => ?_) (fun h30 => ?_)
  · refine R_iconst hB dX2_wokenOfLate_37 ?_
    exact R_zret hB hE rfl (rfl) dX2_wokenOfLate_38 (⟨rfl, by (repeat split at h30) <;> (repeat split) <;> omega⟩)
  · refine R_iconst hB dX2_wokenOfLate_33 ?_
    refine R_goto hB 38 dX2_wokenOfLate_34 rfl ?_
    exact R_zret hB hE rfl (rfl) dX2_wokenOfLate_38 (⟨rfl, by (repeat split at h30) <;> (repeat split) <;> omega⟩)

theorem s_testifies {Θ : Th} {σ : Mem} (fa de hour : Int) (h1 : 0 ≤ fa ∧ fa ≤ 3) (h2 : 0 ≤ de ∧ de ≤ 100) (hh : 0 ≤ hour ∧ hour < 50) (hr : LawOK (σ 25)) (hb : 0 ≤ σ 5 8 ∧ σ 5 8 < 1125899906842624) : Spc Θ M_X2_testifies 1 [.ref (Th.r Θ 5), .int (I fa), .int (I de), .int (I hour), .ref (Th.r Θ 25)] σ (Pu σ (fun z => z = if fa = 3 ∧ σ 25 0 ≤ de ∧ σ 5 8 / 2 ^ (max 0 (hour - σ 25 1)).toNat % 2 ^ (hour - max 0 (hour - σ 25 1) + 1).toNat = 0 then 1 else 0)) := by
  refine Spc_of (by decide +kernel) (Nat.le_of_ble_eq_true rfl) (fun Γ hB hE => ?_)
  show Run Θ Γ 0 [(0, .ref (Th.r Θ 5)), (1, .int (I fa)), (2, .int (I de)), (3, .int (I hour)), (4, .ref (Th.r Θ 25))] [] σ
  obtain ⟨hr0, hr1, hr2⟩ := hr
  refine R_iload_n hB (j := 1) dX2_testifies_0 rfl rfl ?_
  refine R_iconst hB dX2_testifies_1 ?_
  refine R_icmp_ne hB 29 (by omega) (by omega) dX2_testifies_2 rfl (fun h2 => ?_) (fun h2 => ?_)
  · refine R_iconst hB dX2_testifies_29 ?_
    exact R_zret hB hE rfl (rfl) dX2_testifies_30 (⟨rfl, by first | (rw [if_neg (by omega)]) | (split at h19 <;> (rw [if_neg (by omega)])) | (split at h19 <;> (first | (exfalso; omega) | (rw [if_pos (by omega)])))⟩)
  · refine R_iload_n hB (j := 2) dX2_testifies_5 rfl rfl ?_
    refine R_aload hB (j := 4) dX2_testifies_6 rfl ?_
    refine R_iconst hB dX2_testifies_8 ?_
    refine R_iald hB rfl (by omega) dX2_testifies_9 ?_
    refine R_icmp_lt hB 29 (by omega) (by omega) dX2_testifies_10 rfl (fun h10 => ?_) (fun h10 => ?_)
    · refine R_iconst hB dX2_testifies_29 ?_
      exact R_zret hB hE rfl (rfl) dX2_testifies_30 (⟨rfl, by first | (rw [if_neg (by omega)]) | (split at h19 <;> (rw [if_neg (by omega)])) | (split at h19 <;> (first | (exfalso; omega) | (rw [if_pos (by omega)])))⟩)
    · refine R_aload_n hB (j := 0) dX2_testifies_13 rfl rfl ?_
      refine R_iload_n hB (j := 3) dX2_testifies_14 rfl rfl ?_
      refine R_aload hB (j := 4) dX2_testifies_15 rfl ?_
      refine R_iconst hB dX2_testifies_17 ?_
      refine R_iald hB rfl (by omega) dX2_testifies_18 ?_
      refine P_cV1 hB (s_wokenOfLate _ _ (by omega) (by omega) (by omega)) mv_X2_106 rfl rfl (by decide) dX2_testifies_19 rfl rfl (Nat.le_of_ble_eq_true rfl) (fun z19 h19 => ?_)
      refine R_if_ne hB 29 (by rw [h19]; split <;> omega) dX2_testifies_22 rfl (fun h22 => ?_) (fun h22 => ?_)
      · refine R_iconst hB dX2_testifies_29 ?_
        exact R_zret hB hE rfl (rfl) dX2_testifies_30 (⟨rfl, by first | (rw [if_neg (by omega)]) | (split at h19 <;> (rw [if_neg (by omega)])) | (split at h19 <;> (first | (exfalso; omega) | (rw [if_pos (by omega)])))⟩)
      · refine R_iconst hB dX2_testifies_25 ?_
        refine R_goto hB 30 dX2_testifies_26 rfl ?_
        exact R_zret hB hE rfl (rfl) dX2_testifies_30 (⟨rfl, by first | (rw [if_neg (by omega)]) | (split at h19 <;> (rw [if_neg (by omega)])) | (split at h19 <;> (first | (exfalso; omega) | (rw [if_pos (by omega)])))⟩)
