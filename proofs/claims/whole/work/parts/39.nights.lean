theorem s_depth {Θ : Th} {σ : Mem} (hour s : Int) (hh : rng hour) (hs : rng s) (h : InvC σ) : Spc Θ M_X7_depth 1 [.ref (Th.r Θ 0), .int (I hour), .int (I s)] σ (fun r σ' => Same SC σ σ' ∧ r = if (0 ≤ hour ∧ hour < 50) ∧ (0 ≤ s ∧ s < σ 0 2) then deepOf (σ (8 + s.toNat) 2) (σ (8 + s.toNat) 3) (hour - lnL (σ (8 + s.toNat)) (σ 33) (σ 34) (σ 35) (evs (σ 33) (σ 2 4).toNat hour.toNat) (σ (8 + s.toNat) 1)) else -2) := by
  refine Spc_of (by decide +kernel) (Nat.le_of_ble_eq_true rfl) (fun Γ hB hE => ?_)
  show Run Θ Γ 0 [(0, .ref (Th.r Θ 0)), (1, .int (I hour)), (2, .int (I s))] [] σ
  have hns := h.ns
  have hw := h.row
  have hn := hw.1
  have hr := h.2.2.2.1
  refine R_iload_n hB (j := 1) dX7_depth_0 rfl rfl ?_
  refine R_bipush hB dX7_depth_1 rfl ?_
  refine P_cS1 hB (s_within _ _ (by omega) (by omega)) ms_X7_89 (by decide) dX7_depth_3 rfl rfl (Nat.le_of_ble_eq_true rfl) (fun z3 h3 => ?_)
  refine R_if_eq hB 20 (by rw [h3]; split <;> omega) dX7_depth_6 rfl (fun h6 => ?_) (fun h6 => ?_)
  · have hno : ¬ ((0 ≤ hour ∧ hour < 50) ∧ (0 ≤ s ∧ s < σ 0 2)) := by split at h3 <;> omega
    refine R_bipush hB dX7_depth_20 rfl ?_
    exact R_iret hB hE rfl dX7_depth_22 (⟨Same.rf, by rw [if_neg hno]⟩)
  · have hy : 0 ≤ hour ∧ hour < 50 := by split at h3 <;> omega
    refine R_iload_n hB (j := 2) dX7_depth_9 rfl rfl ?_
    refine R_aload_n hB (j := 0) dX7_depth_10 rfl rfl ?_
    refine R_geti hB fl_X7_118 dX7_depth_11 rfl ?_
    refine P_cS1 hB (s_within _ _ (by omega) (by omega)) ms_X7_89 (by decide) dX7_depth_14 rfl rfl (Nat.le_of_ble_eq_true rfl) (fun z14 h14 => ?_)
    refine R_if_ne hB 23 (by rw [h14]; split <;> omega) dX7_depth_17 rfl (fun h17 => ?_) (fun h17 => ?_)
    · have hz : 0 ≤ s ∧ s < σ 0 2 := by split at h14 <;> omega
      refine R_aload_n hB (j := 0) dX7_depth_23 rfl rfl ?_
      refine R_getr hB (5) fl_X7_56 dX7_depth_24 rfl rfl ?_
      refine R_iload_n hB (j := 1) dX7_depth_27 rfl rfl ?_
      refine R_aload_n hB (j := 0) dX7_depth_28 rfl rfl ?_
      refine R_getr hB (23) fl_X7_17 dX7_depth_29 rfl rfl ?_
      refine R_iload_n hB (j := 2) dX7_depth_32 rfl rfl ?_
      refine R_aald hB (8 + (s).toNat) rfl (by decide) (by omega) rfl dX7_depth_33 ?_
      refine R_aload_n hB (j := 0) dX7_depth_34 rfl rfl ?_
      refine R_getr hB (2) fl_X7_24 dX7_depth_35 rfl rfl ?_
      refine R_cV1 hB (s_deepIn hour hy (8 + s.toNat) (cls_bed (by omega)) (h.bed (by omega)) hw) mv_X7_172 rfl rfl (by decide) dX7_depth_38 rfl rfl (Nat.le_of_ble_eq_true rfl) (fun z38 σ1 h38 => ?_)
      exact R_iret hB hE rfl dX7_depth_41 (⟨h38.1.wide (by simp), by rw [if_pos ⟨hy, hz⟩]; exact h38.2⟩)
    · have hno : ¬ ((0 ≤ hour ∧ hour < 50) ∧ (0 ≤ s ∧ s < σ 0 2)) := by split at h14 <;> omega
      refine R_bipush hB dX7_depth_20 rfl ?_
      exact R_iret hB hE rfl dX7_depth_22 (⟨Same.rf, by rw [if_neg hno]⟩)

theorem s_hears {Θ : Th} {σ : Mem} (d s w : Int) (hd : rng d) (hs : rng s) (hwr : rng w) (h : InvC σ) : Spc Θ M_X7_hears 1 [.ref (Th.r Θ 0), .int (I d), .int (I s), .int (I w)] σ (fun r σ' => Same SC σ σ' ∧ r = if ((0 ≤ d ∧ d < σ 2 4) ∧ (0 ≤ s ∧ s < σ 0 2)) ∧ (0 ≤ w ∧ w < 3) then (if w = 0 then ldw (σ (8 + s.toNat)) (σ 34) (σ 35) d else if w = 1 then cFT σ s.toNat d else if cTS σ s.toNat d = true then 1 else 0) else -2) := by
  refine Spc_of (by decide +kernel) (Nat.le_of_ble_eq_true rfl) (fun Γ hB hE => ?_)
  show Run Θ Γ 0 [(0, .ref (Th.r Θ 0)), (1, .int (I d)), (2, .int (I s)), (3, .int (I w))] [] σ
  have hns := h.ns
  have hw := h.row
  have hn := hw.1
  have hr := h.2.2.2.1
  refine R_iload_n hB (j := 1) dX7_hears_0 rfl rfl ?_
  refine R_aload_n hB (j := 0) dX7_hears_1 rfl rfl ?_
  refine R_getr hB (2) fl_X7_24 dX7_hears_2 rfl rfl ?_
  refine R_geti hB fl_X7_140 dX7_hears_5 rfl ?_
  refine P_cS1 hB (s_within _ _ (by omega) (by omega)) ms_X7_89 (by decide) dX7_hears_8 rfl rfl (Nat.le_of_ble_eq_true rfl) (fun z8 h8 => ?_)
  refine R_if_eq hB 25 (by rw [h8]; split <;> omega) dX7_hears_11 rfl (fun h11 => ?_) (fun h11 => ?_)
  · have hno : ¬ ((0 ≤ d ∧ d < σ 2 4) ∧ (0 ≤ s ∧ s < σ 0 2)) := by split at h8 <;> omega
    refine R_bipush hB dX7_hears_25 rfl ?_
    exact R_iret hB hE rfl dX7_hears_27 (⟨Same.rf, by rw [if_neg (fun q => hno q.1)]⟩)
  · have hy : 0 ≤ d ∧ d < σ 2 4 := by split at h8 <;> omega
    refine R_iload_n hB (j := 2) dX7_hears_14 rfl rfl ?_
    refine R_aload_n hB (j := 0) dX7_hears_15 rfl rfl ?_
    refine R_geti hB fl_X7_118 dX7_hears_16 rfl ?_
    refine P_cS1 hB (s_within _ _ (by omega) (by omega)) ms_X7_89 (by decide) dX7_hears_19 rfl rfl (Nat.le_of_ble_eq_true rfl) (fun z19 h19 => ?_)
    refine R_if_ne hB 28 (by rw [h19]; split <;> omega) dX7_hears_22 rfl (fun h22 => ?_) (fun h22 => ?_)
    · have hz : 0 ≤ s ∧ s < σ 0 2 := by split at h19 <;> omega
      refine R_aload_n hB (j := 0) dX7_hears_28 rfl rfl ?_
      refine R_getr hB (5) fl_X7_56 dX7_hears_29 rfl rfl ?_
      refine R_aload_n hB (j := 0) dX7_hears_32 rfl rfl ?_
      refine R_getr hB (23) fl_X7_17 dX7_hears_33 rfl rfl ?_
      refine R_iload_n hB (j := 2) dX7_hears_36 rfl rfl ?_
      refine R_aald hB (8 + (s).toNat) rfl (by decide) (by omega) rfl dX7_hears_37 ?_
      refine R_aload_n hB (j := 0) dX7_hears_38 rfl rfl ?_
      refine R_getr hB (2) fl_X7_24 dX7_hears_39 rfl rfl ?_
      refine R_aload_n hB (j := 0) dX7_hears_42 rfl rfl ?_
      refine R_getr hB (25) fl_X7_28 dX7_hears_43 rfl rfl ?_
      refine R_cV0 hB (s_pass_2 (8 + (s).toNat) (cls_bed (by omega)) (h.bed (by omega)) hw hr) mv_X7_162 rfl rfl (by decide) dX7_hears_46 rfl rfl (Nat.le_of_ble_eq_true rfl) (fun σ1 h46 => ?_)
      rw [hw.2.2] at h46
      obtain ⟨p1, p2, p3, p4, p5, p6⟩ := h46
      have hbs := bsum_in (fun d => tsL (σ (8 + s.toNat)) (σ 33) (σ 34) (σ 35) (evs (σ 33) (σ 2 4).toNat 50) (σ (8 + s.toNat) 1) (σ 25 0) (σ 25 1) (d : Int)) (σ 2 4).toNat
      have h256 := p2_256 (σ 2 4).toNat (by omega)
      refine R_iload_n hB (j := 3) dX7_hears_49 rfl rfl ?_
      rcases (show ((w) < 0 ∨ 2 < (w)) ∨ (w) = 0 ∨ (w) = 1 ∨ (w) = 2 by omega) with h50 | h50 | h50 | h50
      · refine R_tsOut hB 108 (by omega) dX7_hears_50 h50 rfl ?_
        refine R_bipush hB dX7_hears_108 rfl ?_
        exact R_iret hB hE rfl dX7_hears_110 (⟨p1.wide (by simp), by rw [if_neg (by omega)]⟩)
      · refine R_tsIn hB 0 76 (by omega) h50 dX7_hears_50 (by decide) (by decide) rfl rfl ?_
        refine R_aload_n hB (j := 0) dX7_hears_76 rfl rfl ?_
        refine R_getr hB (5) fl_X7_56 dX7_hears_77 rfl rfl ?_
        refine R_getr hB (44) fl_X7_176 dX7_hears_80 rfl rfl ?_
        refine R_iload_n hB (j := 1) dX7_hears_83 rfl rfl ?_
        refine R_iald hB rfl (by omega) dX7_hears_84 ?_
        exact R_iret hB hE rfl dX7_hears_85 (⟨p1.wide (by simp), by rw [if_pos (by omega), if_pos h50]; exact (p5 d hy.1 hy.2).1⟩)
      · refine R_tsIn hB 1 86 (by omega) h50 dX7_hears_50 (by decide) (by decide) rfl rfl ?_
        refine R_aload_n hB (j := 0) dX7_hears_86 rfl rfl ?_
        refine R_getr hB (5) fl_X7_56 dX7_hears_87 rfl rfl ?_
        refine R_getr hB (46) fl_X7_179 dX7_hears_90 rfl rfl ?_
        refine R_iload_n hB (j := 1) dX7_hears_93 rfl rfl ?_
        refine R_iald hB rfl (by omega) dX7_hears_94 ?_
        exact R_iret hB hE rfl dX7_hears_95 (⟨p1.wide (by simp), by rw [if_pos (by omega), if_neg (by omega), if_pos h50]; exact (p5 d hy.1 hy.2).2⟩)
      · refine R_tsIn hB 2 96 (by omega) h50 dX7_hears_50 (by decide) (by decide) rfl rfl ?_
        refine R_aload_n hB (j := 0) dX7_hears_96 rfl rfl ?_
        refine R_getr hB (5) fl_X7_56 dX7_hears_97 rfl rfl ?_
        refine R_geti hB fl_X7_182 dX7_hears_100 rfl ?_
        refine R_iload_n hB (j := 1) dX7_hears_103 rfl rfl ?_
        refine R_ishr hB ((σ1 5 6) / 2 ^ (d).toNat) (i_shr (by rw [p6]; omega) (by omega)) dX7_hears_104 ?_
        refine R_iconst hB dX7_hears_105 ?_
        refine R_iand hB (((σ1 5 6) / 2 ^ (d).toNat) % 2) i_and1 dX7_hears_106 ?_
        exact R_iret hB hE rfl dX7_hears_107 (⟨p1.wide (by simp), by rw [if_pos (by omega), if_neg (by omega), if_neg (by omega), p6]; exact (bsum_bit _ (show d.toNat < (σ 2 4).toNat by omega)).trans (by rw [show ((d.toNat : Nat) : Int) = d by omega]; rfl)⟩)
    · have hno : ¬ ((0 ≤ d ∧ d < σ 2 4) ∧ (0 ≤ s ∧ s < σ 0 2)) := by split at h19 <;> omega
      refine R_bipush hB dX7_hears_25 rfl ?_
      exact R_iret hB hE rfl dX7_hears_27 (⟨Same.rf, by rw [if_neg (fun q => hno q.1)]⟩)

theorem s_proof {Θ : Th} {σ : Mem} (d w : Int) (hd : rng d) (hwr : rng w) (h : InvC σ) : Spc Θ M_X7_proof 1 [.ref (Th.r Θ 0), .int (I d), .int (I w)] σ (fun r σ' => Same SC σ σ' ∧ r = if (0 ≤ d ∧ d < σ 2 4) ∧ (0 ≤ w ∧ w < 3) then (if w = 0 then bsum (fun s => cTS σ s d) (σ 0 2).toNat else if w = 1 then (if σ 25 2 ≤ cnt (fun s => cTS σ s d) (σ 0 2).toNat then 1 else 0) else max 0 (σ 25 2 - cnt (fun s => cTS σ s d) (σ 0 2).toNat)) else -2) := by
  refine Spc_of (by decide +kernel) (Nat.le_of_ble_eq_true rfl) (fun Γ hB hE => ?_)
  show Run Θ Γ 0 [(0, .ref (Th.r Θ 0)), (1, .int (I d)), (2, .int (I w))] [] σ
  have hns := h.ns
  have hw := h.row
  have hn := hw.1
  have hr := h.2.2.2.1
  have hr2 := hr.2.2
  refine R_iload_n hB (j := 1) dX7_proof_0 rfl rfl ?_
  refine R_aload_n hB (j := 0) dX7_proof_1 rfl rfl ?_
  refine R_getr hB (2) fl_X7_24 dX7_proof_2 rfl rfl ?_
  refine R_geti hB fl_X7_140 dX7_proof_5 rfl ?_
  refine P_cS1 hB (s_within _ _ (by omega) (by omega)) ms_X7_89 (by decide) dX7_proof_8 rfl rfl (Nat.le_of_ble_eq_true rfl) (fun z8 h8 => ?_)
  refine R_if_ne hB 17 (by rw [h8]; split <;> omega) dX7_proof_11 rfl (fun h11 => ?_) (fun h11 => ?_)
  · have hy : 0 ≤ d ∧ d < σ 2 4 := by split at h8 <;> omega
    refine R_aload_n hB (j := 0) dX7_proof_17 rfl rfl ?_
    refine R_aload_n hB (j := 0) dX7_proof_18 rfl rfl ?_
    refine R_getr hB (2) fl_X7_24 dX7_proof_19 rfl rfl ?_
    refine R_cV0 hB (s_hearAll_2 hns (fun s hs => h.bed hs) hw hr) mv_X7_185 rfl rfl (by decide) dX7_proof_22 rfl rfl (Nat.le_of_ble_eq_true rfl) (fun σ1 h22 => ?_)
    rw [hw.2.2] at h22
    obtain ⟨j1, j2, j3, j4, j5⟩ := h22
    have k0 : σ1 0 = σ 0 := j1 0 (by decide)
    have k2 : σ1 2 = σ 2 := j1 2 (by decide)
    have k25 : σ1 25 = σ 25 := j1 25 (by decide)
    have h256 := p2_256 (σ 2 4).toNat (by omega)
    have hT : ∀ s : Nat, s < (σ 0 2).toNat → σ1 48 s = bsum (fun d : Nat => cTS σ s (d : Int)) (σ 2 4).toNat := fun s hs => j5 s (by omega)
    have ht : ∀ s, 0 ≤ s → s < σ1 6 1 → 0 ≤ σ1 48 s ∧ σ1 48 s < 256 := fun s q1 q2 => by
      have := hT s.toNat (by omega)
      rw [show ((s.toNat : Nat) : Int) = s by omega] at this
      have hb := bsum_in (fun d : Nat => cTS σ s.toNat (d : Int)) (σ 2 4).toNat
      omega
    refine R_aload_n hB (j := 0) dX7_proof_25 rfl rfl ?_
    refine R_getr hB (6) fl_X7_63 dX7_proof_26 rfl rfl ?_
    refine R_iload_n hB (j := 1) dX7_proof_29 rfl rfl ?_
    refine P_cV1 hB (s_witnesses d (by omega) (by omega) ht) mv_X7_189 rfl rfl (by decide) dX7_proof_30 rfl rfl (Nat.le_of_ble_eq_true rfl) (fun z30 h30 => ?_)
    rw [j2, wit_bits hT (d := d.toNat) (by omega)] at h30
    simp only [show ((d.toNat : Nat) : Int) = d by omega] at h30
    have hb := bsum_in (fun s => cTS σ s d) (σ 0 2).toNat
    have hb8 := p2_256 (σ 0 2).toNat (by omega)
    rw [← h30] at hb
    have hc := cnt_in (fun s => cTS σ s d) (σ 0 2).toNat
    refine R_istore_n hB (L' := [_, _, _, _]) dX7_proof_33 rfl (Nat.le_of_ble_eq_true rfl) rfl ?_
    refine R_iconst hB dX7_proof_34 ?_
    refine R_aload_n hB (j := 1) dX7_proof_35 rfl rfl ?_
    refine R_getr hB (25) fl_X7_28 dX7_proof_36 rfl rfl ?_
    refine R_iconst hB dX7_proof_39 ?_
    refine R_iald hB rfl (by omega) dX7_proof_40 ?_
    refine R_iload_n hB (j := 0) dX7_proof_41 rfl rfl ?_
    refine P_cS1 hB (s_bitCount _ (by omega)) ms_X7_192 (by decide) dX7_proof_42 rfl rfl (Nat.le_of_ble_eq_true rfl) (fun z42 h42 => ?_)
    rw [h30, pc8_bsum _ (by omega)] at h42
    refine R_isub hB dX7_proof_45 ?_
    refine P_max hB (by omega) (by rw [k25]; omega) ms_X7_197 (by decide) dX7_proof_46 (Nat.le_of_ble_eq_true rfl) ?_
    refine R_nmi (fun lk hlk => ?_)
    refine R_istore hB (L' := [_, _, _, _, _]) dX7_proof_49 (Nat.le_of_ble_eq_true rfl) rfl ?_
    rw [k25, h42] at hlk
    refine R_iload_n hB (j := 4) dX7_proof_51 rfl rfl ?_
    rcases (show ((w) < 0 ∨ 2 < (w)) ∨ (w) = 0 ∨ (w) = 1 ∨ (w) = 2 by omega) with h52 | h52 | h52 | h52
    · refine R_tsOut hB 96 (by omega) dX7_proof_52 h52 rfl ?_
      refine R_bipush hB dX7_proof_96 rfl ?_
      exact R_iret hB hE rfl dX7_proof_98 (⟨j1.wide (by simp), by rw [if_neg (by omega)]⟩)
    · refine R_tsIn hB 0 80 (by omega) h52 dX7_proof_52 (by decide) (by decide) rfl rfl ?_
      refine R_iload_n hB (j := 1) dX7_proof_80 rfl rfl ?_
      exact R_iret hB hE rfl dX7_proof_81 (⟨j1.wide (by simp), by rw [if_pos (by omega), if_pos h52, h30]⟩)
    · refine R_tsIn hB 1 82 (by omega) h52 dX7_proof_52 (by decide) (by decide) rfl rfl ?_
      refine R_iload hB (j := 0) dX7_proof_82 rfl ?_
      refine R_if_ne hB 91 (by omega) dX7_proof_84 rfl (fun h84 => ?_) (fun h84 => ?_)
      · refine R_iconst hB dX7_proof_91 ?_
        exact R_iret hB hE rfl dX7_proof_92 (⟨j1.wide (by simp), by rw [if_pos (by omega), if_neg (by omega), if_pos h52]; split <;> omega⟩)
      · refine R_iconst hB dX7_proof_87 ?_
        refine R_goto hB 92 dX7_proof_88 rfl ?_
        exact R_iret hB hE rfl dX7_proof_92 (⟨j1.wide (by simp), by rw [if_pos (by omega), if_neg (by omega), if_pos h52]; split <;> omega⟩)
    · refine R_tsIn hB 2 93 (by omega) h52 dX7_proof_52 (by decide) (by decide) rfl rfl ?_
      refine R_iload hB (j := 0) dX7_proof_93 rfl ?_
      exact R_iret hB hE rfl dX7_proof_95 (⟨j1.wide (by simp), by rw [if_pos (by omega), if_neg (by omega), if_neg (by omega), hlk]⟩)
  · have hno : ¬ (0 ≤ d ∧ d < σ 2 4) := by split at h8 <;> omega
    refine R_bipush hB dX7_proof_14 rfl ?_
    exact R_iret hB hE rfl dX7_proof_16 (⟨Same.rf, by rw [if_neg (fun q => hno q.1)]⟩)

theorem s_nights {Θ : Th} {σ : Mem} (s w : Int) (hs : rng s) (hwr : rng w) (h : InvC σ) : Spc Θ M_X7_nights 1 [.ref (Th.r Θ 0), .int (I s), .int (I w)] σ (fun r σ' => Same SC σ σ' ∧ r = if (0 ≤ s ∧ s < σ 0 2) ∧ (0 ≤ w ∧ w < 2) then (if w = 0 then cnL (σ (8 + s.toNat)) (σ 33) (σ 34) (σ 35) 2 (fun _ => true) (evs (σ 33) (σ 2 4).toNat 50) (σ (8 + s.toNat) 1) else cnt (fun d : Nat => cTS σ s.toNat (d : Int)) (σ 2 4).toNat) else -2) := by
  refine Spc_of (by decide +kernel) (Nat.le_of_ble_eq_true rfl) (fun Γ hB hE => ?_)
  show Run Θ Γ 0 [(0, .ref (Th.r Θ 0)), (1, .int (I s)), (2, .int (I w))] [] σ
  have hns := h.ns
  have hw := h.row
  have hn := hw.1
  have hr := h.2.2.2.1
  refine R_iload_n hB (j := 1) dX7_nights_0 rfl rfl ?_
  refine R_aload_n hB (j := 0) dX7_nights_1 rfl rfl ?_
  refine R_geti hB fl_X7_118 dX7_nights_2 rfl ?_
  refine P_cS1 hB (s_within _ _ (by omega) (by omega)) ms_X7_89 (by decide) dX7_nights_5 rfl rfl (Nat.le_of_ble_eq_true rfl) (fun z5 h5 => ?_)
  refine R_if_ne hB 14 (by rw [h5]; split <;> omega) dX7_nights_8 rfl (fun h8 => ?_) (fun h8 => ?_)
  · have hy : 0 ≤ s ∧ s < σ 0 2 := by split at h5 <;> omega
    refine R_aload_n hB (j := 0) dX7_nights_14 rfl rfl ?_
    refine R_getr hB (5) fl_X7_56 dX7_nights_15 rfl rfl ?_
    refine R_aload_n hB (j := 0) dX7_nights_18 rfl rfl ?_
    refine R_getr hB (23) fl_X7_17 dX7_nights_19 rfl rfl ?_
    refine R_iload_n hB (j := 1) dX7_nights_22 rfl rfl ?_
    refine R_aald hB (8 + (s).toNat) rfl (by decide) (by omega) rfl dX7_nights_23 ?_
    refine R_aload_n hB (j := 0) dX7_nights_24 rfl rfl ?_
    refine R_getr hB (2) fl_X7_24 dX7_nights_25 rfl rfl ?_
    refine R_aload_n hB (j := 0) dX7_nights_28 rfl rfl ?_
    refine R_getr hB (25) fl_X7_28 dX7_nights_29 rfl rfl ?_
    refine R_cV0 hB (s_pass_2 (8 + (s).toNat) (cls_bed (by omega)) (h.bed (by omega)) hw hr) mv_X7_162 rfl rfl (by decide) dX7_nights_32 rfl rfl (Nat.le_of_ble_eq_true rfl) (fun σ1 h32 => ?_)
    rw [hw.2.2] at h32
    obtain ⟨p1, p2, p3, p4, p5, p6⟩ := h32
    have hbs := bsum_in (fun d => tsL (σ (8 + s.toNat)) (σ 33) (σ 34) (σ 35) (evs (σ 33) (σ 2 4).toNat 50) (σ (8 + s.toNat) 1) (σ 25 0) (σ 25 1) (d : Int)) (σ 2 4).toNat
    have h256 := p2_256 (σ 2 4).toNat (by omega)
    refine R_iload_n hB (j := 2) dX7_nights_35 rfl rfl ?_
    rcases (show ((w) ≠ 0 ∧ (w) ≠ 1) ∨ (w) = 0 ∨ (w) = 1 by omega) with h36 | h36 | h36
    · refine R_lsOut hB 83 (by omega) dX7_nights_36 rfl (by show Op.lookupswitch.offset [(0, 28), (1, 36)] 47 _ = 47; rw [Op.lookupswitch.offset_cons, if_neg (by omega), Op.lookupswitch.offset_cons, if_neg (by omega)]; rfl) rfl ?_
      refine R_bipush hB dX7_nights_83 rfl ?_
      exact R_iret hB hE rfl dX7_nights_85 (⟨p1.wide (by simp), by rw [if_neg (by omega)]⟩)
    · refine R_lsIn hB 0 64 (by omega) h36 dX7_nights_36 rfl rfl rfl ?_
      refine R_aload_n hB (j := 0) dX7_nights_64 rfl rfl ?_
      refine R_getr hB (5) fl_X7_56 dX7_nights_65 rfl rfl ?_
      refine R_geti hB fl_X7_202 dX7_nights_68 rfl ?_
      exact R_iret hB hE rfl dX7_nights_71 (⟨p1.wide (by simp), by rw [if_pos (by omega), if_pos h36]; exact p3⟩)
    · refine R_lsIn hB 1 72 (by omega) h36 dX7_nights_36 rfl rfl rfl ?_
      refine R_aload_n hB (j := 0) dX7_nights_72 rfl rfl ?_
      refine R_getr hB (5) fl_X7_56 dX7_nights_73 rfl rfl ?_
      refine R_geti hB fl_X7_182 dX7_nights_76 rfl ?_
      refine P_cS1 hB (s_bitCount _ (by rw [p6]; omega)) ms_X7_192 (by decide) dX7_nights_79 rfl rfl (Nat.le_of_ble_eq_true rfl) (fun z79 h79 => ?_)
      rw [p6, pc8_bsum _ (by omega)] at h79
      exact R_iret hB hE rfl dX7_nights_82 (⟨p1.wide (by simp), by rw [if_pos (by omega), if_neg (by omega)]; exact h79⟩)
  · have hno : ¬ (0 ≤ s ∧ s < σ 0 2) := by split at h5 <;> omega
    refine R_bipush hB dX7_nights_11 rfl ?_
    exact R_iret hB hE rfl dX7_nights_13 (⟨Same.rf, by rw [if_neg (fun q => hno q.1)]⟩)

theorem s_best {Θ : Th} {σ : Mem} (h : InvC σ) : Spc Θ M_X7_best 1 [.ref (Th.r Θ 0)] σ (fun r σ' => Same SC σ σ' ∧ r = amx (cMany σ) (σ 0 2).toNat) := by
  refine Spc_of (by decide +kernel) (Nat.le_of_ble_eq_true rfl) (fun Γ hB hE => ?_)
  show Run Θ Γ 0 [(0, .ref (Th.r Θ 0))] [] σ
  have hns := h.ns
  have hw := h.row
  have hn := hw.1
  have hr := h.2.2.2.1
  refine R_iconst hB dX7_best_0 ?_
  refine R_istore_n hB (L' := [_, _]) dX7_best_1 rfl (Nat.le_of_ble_eq_true rfl) rfl ?_
  refine R_iconst hB dX7_best_2 ?_
  refine R_istore_n hB (L' := [_, _, _]) dX7_best_3 rfl (Nat.le_of_ble_eq_true rfl) rfl ?_
  refine R_iconst hB dX7_best_4 ?_
  refine R_istore_n hB (L' := [_, _, _, _]) dX7_best_5 rfl (Nat.le_of_ble_eq_true rfl) rfl ?_
  have lp_6 : ∀ (n_6 : Nat) (be mo s : Int) (σ2 : Mem), ((σ 0 2 - s).toNat) < n_6 → (0 ≤ s ∧ s ≤ σ 0 2) → (Same SC σ σ2) → (be = amx (cMany σ) s.toNat) → (mo = amv (cMany σ) s.toNat) → (-1 ≤ mo ∧ mo ≤ 8) → Run Θ Γ 6 [(0, .ref (Th.r Θ 0)), (1, .int (I be)), (2, .int (I mo)), (3, .int (I s))] [] σ2 := by
    intro n_6
    induction n_6 with
    | zero => intro be mo s σ2 h_m; exact absurd h_m (Nat.not_lt_zero _)
    | succ n_6 ih_6 =>
      intro be mo s σ2 h_m hs hS hb hm hmb
      have k0 : σ2 0 = σ 0 := hS 0 (by decide)
      have k2 : σ2 2 = σ 2 := hS 2 (by decide)
      have k25 : σ2 25 = σ 25 := hS 25 (by decide)
      have k33 : σ2 33 = σ 33 := hS 33 (by decide)
      have k34 : σ2 34 = σ 34 := hS 34 (by decide)
      have k35 : σ2 35 = σ 35 := hS 35 (by decide)
      have k36 : σ2 36 = σ 36 := hS 36 (by decide)
      refine R_iload_n hB (j := 3) dX7_best_6 rfl rfl ?_
      refine R_aload_n hB (j := 0) dX7_best_7 rfl rfl ?_
      refine R_geti hB fl_X7_118 dX7_best_8 rfl ?_
      refine R_icmp_ge hB 64 (by omega) (by rw [k0]; omega) dX7_best_11 rfl (fun h11 => ?_) (fun h11 => ?_)
      · rw [k0] at h11
        refine R_iload_n hB (j := 1) dX7_best_64 rfl rfl ?_
        exact R_iret hB hE rfl dX7_best_65 (⟨hS, by rw [hb]; congr 1; omega⟩)
      · rw [k0] at h11
        have hI := h.same hS
        have k8 : σ2 (8 + s.toNat) = σ (8 + s.toNat) := hS _ (by simp; omega)
        refine R_aload_n hB (j := 0) dX7_best_14 rfl rfl ?_
        refine R_getr hB (5) fl_X7_56 dX7_best_15 rfl rfl ?_
        refine R_aload_n hB (j := 0) dX7_best_18 rfl rfl ?_
        refine R_getr hB (23) fl_X7_17 dX7_best_19 rfl rfl ?_
        refine R_iload_n hB (j := 3) dX7_best_22 rfl rfl ?_
        refine R_aald hB (8 + (s).toNat) rfl (by decide) (by omega) rfl dX7_best_23 ?_
        refine R_aload_n hB (j := 0) dX7_best_24 rfl rfl ?_
        refine R_getr hB (2) fl_X7_24 dX7_best_25 rfl rfl ?_
        refine R_aload_n hB (j := 0) dX7_best_28 rfl rfl ?_
        refine R_getr hB (25) fl_X7_28 dX7_best_29 rfl rfl ?_
        refine R_cV0 hB (s_pass_2 (8 + s.toNat) (cls_bed (by omega)) (by rw [k8]; exact h.bed (by omega)) (by rw [k33, k34, k35, k36, k2]; exact hw) (by rw [k25]; exact hr)) mv_X7_162 rfl rfl (by decide) dX7_best_32 rfl rfl (Nat.le_of_ble_eq_true rfl) (fun σ1 h32 => ?_)
        rw [k8, k33, k34, k35, k36, k2, k25] at h32
        rw [hw.2.2] at h32
        obtain ⟨p1, p2, p3, p4, p5, p6⟩ := h32
        have hbs := bsum_in (fun d => tsL (σ (8 + s.toNat)) (σ 33) (σ 34) (σ 35) (evs (σ 33) (σ 2 4).toNat 50) (σ (8 + s.toNat) 1) (σ 25 0) (σ 25 1) (d : Int)) (σ 2 4).toNat
        have h256 := p2_256 (σ 2 4).toNat (by omega)
        refine R_aload_n hB (j := 0) dX7_best_35 rfl rfl ?_
        refine R_getr hB (5) fl_X7_56 dX7_best_36 rfl rfl ?_
        refine R_geti hB fl_X7_182 dX7_best_39 rfl ?_
        refine P_cS1 hB (s_bitCount _ (by rw [p6]; omega)) ms_X7_192 (by decide) dX7_best_42 rfl rfl (Nat.le_of_ble_eq_true rfl) (fun z42 h42 => ?_)
        rw [p6, pc8_bsum _ (by omega)] at h42
        have hfs : z42 = (cMany σ) s.toNat := h42
        have hc := cMany_in σ s.toNat
        rw [← hfs] at hc
        have hA := am_step (fun k => (cMany_in σ k).1) hb hm hfs
        rw [show ((s.toNat : Nat) : Int) = s by omega, show s.toNat + 1 = (s + 1).toNat by omega] at hA
        have hS1 : Same SC σ σ1 := hS.tr p1 (fun _ q => q) (by simp)
        refine R_istore hB (L' := [_, _, _, _, _]) dX7_best_45 (Nat.le_of_ble_eq_true rfl) rfl ?_
        refine R_iload hB (j := 0) dX7_best_47 rfl ?_
        refine R_iload_n hB (j := 3) dX7_best_49 rfl rfl ?_
        refine R_icmp_le hB 58 (by omega) (by omega) dX7_best_50 rfl (fun h50 => ?_) (fun h50 => ?_)
        · have hB2 := hA.2 h50
          refine R_iinc hB (j := 4) (L' := [_, _, _, _, _]) dX7_best_58 rfl (Nat.le_of_ble_eq_true rfl) rfl ?_
          refine R_goto hB 6 dX7_best_61 rfl ?_
          exact R_sub [2, 3, 4, 0] rfl (ih_6 _ _ _ _ (by omega) (by omega) hS1 hB2.1 hB2.2 (by omega))
        · have hB2 := hA.1 h50
          refine R_iload hB (j := 0) dX7_best_53 rfl ?_
          refine R_istore_n hB (L' := [_, _, _, _, _]) dX7_best_55 rfl (Nat.le_of_ble_eq_true rfl) rfl ?_
          refine R_iload_n hB (j := 4) dX7_best_56 rfl rfl ?_
          refine R_istore_n hB (L' := [_, _, _, _, _]) dX7_best_57 rfl (Nat.le_of_ble_eq_true rfl) rfl ?_
          refine R_iinc hB (j := 4) (L' := [_, _, _, _, _]) dX7_best_58 rfl (Nat.le_of_ble_eq_true rfl) rfl ?_
          refine R_goto hB 6 dX7_best_61 rfl ?_
          exact R_sub [4, 1, 2, 0] rfl (ih_6 _ _ _ _ (by omega) (by omega) hS1 hB2.1 hB2.2 (by omega))
  exact R_sub [3, 2, 1, 0] rfl (lp_6 _ _ _ _ _ (Nat.lt_succ_self _) (by omega) Same.rf rfl rfl (by omega))

theorem s_seenBy {Θ : Th} {σ : Mem} (s : Int) (hs : 0 ≤ s ∧ s < σ 0 2) (h : InvC σ) : Spc Θ M_X7_seenBy 1 [.ref (Th.r Θ 0), .int (I s)] σ (fun r σ' => Same SC σ σ' ∧ r = bsum (fun d : Nat => decide (cFT σ s.toNat (d : Int) = 1 ∨ cFT σ s.toNat (d : Int) = 2)) (σ 2 4).toNat) := by
  refine Spc_of (by decide +kernel) (Nat.le_of_ble_eq_true rfl) (fun Γ hB hE => ?_)
  show Run Θ Γ 0 [(0, .ref (Th.r Θ 0)), (1, .int (I s))] [] σ
  have hns := h.ns
  have hw := h.row
  have hn := hw.1
  have hr := h.2.2.2.1
  refine R_aload_n hB (j := 0) dX7_seenBy_0 rfl rfl ?_
  refine R_getr hB (5) fl_X7_56 dX7_seenBy_1 rfl rfl ?_
  refine R_aload_n hB (j := 0) dX7_seenBy_4 rfl rfl ?_
  refine R_getr hB (23) fl_X7_17 dX7_seenBy_5 rfl rfl ?_
  refine R_iload_n hB (j := 1) dX7_seenBy_8 rfl rfl ?_
  refine R_aald hB (8 + (s).toNat) rfl (by decide) (by omega) rfl dX7_seenBy_9 ?_
  refine R_aload_n hB (j := 0) dX7_seenBy_10 rfl rfl ?_
  refine R_getr hB (2) fl_X7_24 dX7_seenBy_11 rfl rfl ?_
  refine R_aload_n hB (j := 0) dX7_seenBy_14 rfl rfl ?_
  refine R_getr hB (25) fl_X7_28 dX7_seenBy_15 rfl rfl ?_
  refine R_cV0 hB (s_pass_2 (8 + (s).toNat) (cls_bed (by omega)) (h.bed (by omega)) hw hr) mv_X7_162 rfl rfl (by decide) dX7_seenBy_18 rfl rfl (Nat.le_of_ble_eq_true rfl) (fun σ1 h18 => ?_)
  rw [hw.2.2] at h18
  obtain ⟨p1, p2, p3, p4, p5, p6⟩ := h18
  have k2 : σ1 2 = σ 2 := p1 2 (by decide)
  refine R_iconst hB dX7_seenBy_21 ?_
  refine R_istore_n hB (L' := [_, _, _]) dX7_seenBy_22 rfl (Nat.le_of_ble_eq_true rfl) rfl ?_
  refine R_iconst hB dX7_seenBy_23 ?_
  refine R_istore_n hB (L' := [_, _, _, _]) dX7_seenBy_24 rfl (Nat.le_of_ble_eq_true rfl) rfl ?_
  have lp_25 : ∀ (n_25 : Nat) (bi j : Int), ((σ 2 4 - j).toNat) < n_25 → (0 ≤ j ∧ j ≤ σ 2 4) → (bi = bsum (fun d : Nat => decide (cFT σ s.toNat (d : Int) = 1 ∨ cFT σ s.toNat (d : Int) = 2)) j.toNat) → Run Θ Γ 25 [(0, .ref (Th.r Θ 0)), (1, .int (I s)), (2, .int (I bi)), (3, .int (I j))] [] σ1 := by
    intro n_25
    induction n_25 with
    | zero => intro bi j h_m; exact absurd h_m (Nat.not_lt_zero _)
    | succ n_25 ih_25 =>
      intro bi j h_m hj hb
      refine R_iload_n hB (j := 3) dX7_seenBy_25 rfl rfl ?_
      refine R_aload_n hB (j := 0) dX7_seenBy_26 rfl rfl ?_
      refine R_getr hB (2) fl_X7_24 dX7_seenBy_27 rfl rfl ?_
      refine R_geti hB fl_X7_140 dX7_seenBy_30 rfl ?_
      refine R_icmp_ge hB 74 (by omega) (by rw [k2]; omega) dX7_seenBy_33 rfl (fun h33 => ?_) (fun h33 => ?_)
      · rw [k2] at h33
        refine R_iload_n hB (j := 2) dX7_seenBy_74 rfl rfl ?_
        exact R_iret hB hE rfl dX7_seenBy_75 (⟨p1.wide (by simp), by rw [hb]; congr 1; omega⟩)
      · rw [k2] at h33
        have hf := (p5 j hj.1 h33).2
        have hfb := ftL_bd (σ (8 + s.toNat)) (σ 33) (σ 34) (σ 35) j (evs (σ 33) (σ 2 4).toNat 50) (σ (8 + s.toNat) 1)
        have hbs := bsum_in (fun d : Nat => decide (cFT σ s.toNat (d : Int) = 1 ∨ cFT σ s.toNat (d : Int) = 2)) j.toNat
        have hp2 := p2_8 j.toNat (by omega)
        refine R_aload_n hB (j := 0) dX7_seenBy_36 rfl rfl ?_
        refine R_getr hB (5) fl_X7_56 dX7_seenBy_37 rfl rfl ?_
        refine R_getr hB (46) fl_X7_179 dX7_seenBy_40 rfl rfl ?_
        refine R_iload_n hB (j := 3) dX7_seenBy_43 rfl rfl ?_
        refine R_iald hB rfl (by omega) dX7_seenBy_44 ?_
        refine R_iconst hB dX7_seenBy_45 ?_
        have jn_62 : ∀ (_ : Unit), ((fun d : Nat => decide (cFT σ s.toNat (d : Int) = 1 ∨ cFT σ s.toNat (d : Int) = 2)) j.toNat = true) → Run Θ Γ 62 [(0, .ref (Th.r Θ 0)), (1, .int (I s)), (2, .int (I bi)), (3, .int (I j))] [] σ1 := by
          intro _ hp
          refine R_iload_n hB (j := 2) dX7_seenBy_62 rfl rfl ?_
          refine R_iconst hB dX7_seenBy_63 ?_
          refine R_iload_n hB (j := 3) dX7_seenBy_64 rfl rfl ?_
          refine R_ishl hB (2 ^ (j).toNat) (i_shl1z (by omega)) dX7_seenBy_65 ?_
          refine R_ior hB ((bi) + 2 ^ (j).toNat) (i_oradd (by rw [hb]; exact hbs) (by omega)) dX7_seenBy_66 ?_
          refine R_istore_n hB (L' := [_, _, _, _]) dX7_seenBy_67 rfl (Nat.le_of_ble_eq_true rfl) rfl ?_
          refine R_iinc hB (j := 3) (L' := [_, _, _, _]) dX7_seenBy_68 rfl (Nat.le_of_ble_eq_true rfl) rfl ?_
          refine R_goto hB 25 dX7_seenBy_71 rfl ?_
          exact R_sub [2, 3, 1, 0] rfl (ih_25 _ _ (by omega) (by omega) (by
            rw [show (j + 1).toNat = j.toNat + 1 by omega]
            simp only [bsum]
            rw [← hb]
            first
            | (rw [if_pos hp])
            | (rw [if_neg (by simp only [decide_eq_true_eq, cFT, show ((j.toNat : Nat) : Int) = j by omega]; unfold cFT at *; rw [← hf]; omega)]; omega)))
        refine R_icmp_eq hB 62 (by rw [hf]; omega) (by omega) dX7_seenBy_46 rfl (fun h46 => ?_) (fun h46 => ?_)
        · exact R_sub [0, 1, 2, 3] rfl (jn_62 () (by simp only [decide_eq_true_eq, cFT, show ((j.toNat : Nat) : Int) = j by omega]; left; rw [← hf]; exact h46))
        · refine R_aload_n hB (j := 0) dX7_seenBy_49 rfl rfl ?_
          refine R_getr hB (5) fl_X7_56 dX7_seenBy_50 rfl rfl ?_
          refine R_getr hB (46) fl_X7_179 dX7_seenBy_53 rfl rfl ?_
          refine R_iload_n hB (j := 3) dX7_seenBy_56 rfl rfl ?_
          refine R_iald hB rfl (by omega) dX7_seenBy_57 ?_
          refine R_iconst hB dX7_seenBy_58 ?_
          refine R_icmp_ne hB 68 (by rw [hf]; omega) (by omega) dX7_seenBy_59 rfl (fun h59 => ?_) (fun h59 => ?_)
          · refine R_iinc hB (j := 3) (L' := [_, _, _, _]) dX7_seenBy_68 rfl (Nat.le_of_ble_eq_true rfl) rfl ?_
            refine R_goto hB 25 dX7_seenBy_71 rfl ?_
            exact R_sub [1, 2, 3, 0] rfl (ih_25 _ _ (by omega) (by omega) (by
              rw [show (j + 1).toNat = j.toNat + 1 by omega]
              simp only [bsum]
              rw [← hb]
              first
              | (rw [if_pos hp])
              | (rw [if_neg (by simp only [decide_eq_true_eq, cFT, show ((j.toNat : Nat) : Int) = j by omega]; unfold cFT at *; rw [← hf]; omega)]; omega)))
          · exact R_sub [0, 1, 2, 3] rfl (jn_62 () (by simp only [decide_eq_true_eq, cFT, show ((j.toNat : Nat) : Int) = j by omega]; right; rw [← hf]; exact h59))
  exact R_sub [2, 3, 1, 0] rfl (lp_25 _ _ _ (Nat.lt_succ_self _) (by omega) rfl)
