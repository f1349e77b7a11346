theorem s_whoNow {Θ : Th} {σ : Mem} (d : Int) (hd : 0 ≤ d ∧ d < 9) (hn : 0 ≤ σ 1 2 ∧ σ 1 2 ≤ 8) : Spc Θ M_X8_whoNow 1 [.ref (Th.r Θ 1), .int (I d)] σ (Pu σ (fun z => z = bsum (fun k : Nat => tsB σ d (k : Int)) (σ 1 2).toNat)) := by
  refine Spc_of (by decide +kernel) (Nat.le_of_ble_eq_true rfl) (fun Γ hB hE => ?_)
  show Run Θ Γ 0 [(0, .ref (Th.r Θ 1)), (1, .int (I d))] [] σ
  refine R_canon (fun hcn => ?_)
  have q65 : ∀ x, rng (σ 65 x) := fun x => hcn.i 65 x (by decide) (by decide) (by decide)
  have q64 : ∀ x, rng (σ 64 x) := fun x => hcn.i 64 x (by decide) (by decide) (by decide)
  have q1 : ∀ x, rng (σ 1 x) := fun x => hcn.i 1 x (by decide) (by decide) (by decide)
  have q61 : ∀ x, rng (σ 61 x) := fun x => hcn.i 61 x (by decide) (by decide) (by decide)
  refine R_iconst hB dX8_whoNow_0 ?_
  refine R_istore_n hB (L' := [_, _, _]) dX8_whoNow_1 rfl (Nat.le_of_ble_eq_true rfl) rfl ?_
  refine R_iconst hB dX8_whoNow_2 ?_
  refine R_istore_n hB (L' := [_, _, _, _]) dX8_whoNow_3 rfl (Nat.le_of_ble_eq_true rfl) rfl ?_
  have lp_4 : ∀ (n_4 : Nat) (b k : Int), ((σ 1 2 - k).toNat) < n_4 → (0 ≤ k ∧ k ≤ σ 1 2) → (b = bsum (fun k : Nat => tsB σ d (k : Int)) k.toNat) → Run Θ Γ 4 [(0, .ref (Th.r Θ 1)), (1, .int (I d)), (2, .int (I b)), (3, .int (I k))] [] σ := by
    intro n_4
    induction n_4 with
    | zero => intro b k h_m; exact absurd h_m (Nat.not_lt_zero _)
    | succ n_4 ih_4 =>
      intro b k h_m hk hb
      have hbb := bsum_in (fun k : Nat => tsB σ d (k : Int)) k.toNat
      rw [← hb] at hbb
      have h256 := p2_256 k.toNat (by omega)
      refine R_iload_n hB (j := 3) dX8_whoNow_4 rfl rfl ?_
      refine R_aload_n hB (j := 0) dX8_whoNow_5 rfl rfl ?_
      refine R_geti hB fl_X8_114 dX8_whoNow_6 rfl ?_
      refine R_icmp_ge hB 42 (by omega) (by omega) dX8_whoNow_9 rfl (fun h9 => ?_) (fun h9 => ?_)
      · refine R_iload_n hB (j := 2) dX8_whoNow_42 rfl rfl ?_
        exact R_iret hB hE rfl dX8_whoNow_43 (⟨rfl, by rw [hb]; congr 1; omega⟩)
      · refine R_iload_n hB (j := 2) dX8_whoNow_12 rfl rfl ?_
        refine R_aload_n hB (j := 0) dX8_whoNow_13 rfl rfl ?_
        refine R_getr hB (65) fl_X8_47 dX8_whoNow_14 rfl rfl ?_
        refine R_bipush hB dX8_whoNow_17 rfl ?_
        refine R_iload_n hB (j := 1) dX8_whoNow_19 rfl rfl ?_
        refine R_imul hB dX8_whoNow_20 ?_
        refine R_iload_n hB (j := 3) dX8_whoNow_21 rfl rfl ?_
        refine R_iadd hB dX8_whoNow_22 ?_
        refine R_zald hB rfl (by omega) dX8_whoNow_23 ?_
        have jn_34 : ∀ (x : Int), (x = if tsB σ d k = true then 2 ^ k.toNat else 0) → Run Θ Γ 34 [(0, .ref (Th.r Θ 1)), (1, .int (I d)), (2, .int (I b)), (3, .int (I k))] [.int (I x), .int (I b)] σ := by
          intro x hx
          refine R_ior hB (b + x) (by rw [hx]; split <;> first | (rw [i_oradd (by omega) (by omega)]) | (rw [i_or (by omega) (by omega)]; congr 1; unfold orZ; simp; omega)) dX8_whoNow_34 ?_
          refine R_istore_n hB (L' := [_, _, _, _]) dX8_whoNow_35 rfl (Nat.le_of_ble_eq_true rfl) rfl ?_
          refine R_iinc hB (j := 3) (L' := [_, _, _, _]) dX8_whoNow_36 rfl (Nat.le_of_ble_eq_true rfl) rfl ?_
          refine R_goto hB 4 dX8_whoNow_39 rfl ?_
          exact R_sub [2, 3, 1, 0] rfl (ih_4 _ _ (by omega) (by omega) (by rw [bsum_k (tsB σ d) hk.1, ← hb, hx]))
        refine R_if_eq hB 33 (q65 _) dX8_whoNow_24 rfl (fun h24 => ?_) (fun h24 => ?_)
        · refine R_iconst hB dX8_whoNow_33 ?_
          exact R_sub [0, 1, 2, 3] rfl (jn_34 _ (by rw [if_neg (tsB_f h24)]))
        · refine R_iconst hB dX8_whoNow_27 ?_
          refine R_iload_n hB (j := 3) dX8_whoNow_28 rfl rfl ?_
          refine R_ishl hB (2 ^ (k).toNat) (i_shl1z (by omega)) dX8_whoNow_29 ?_
          refine R_goto hB 34 dX8_whoNow_30 rfl ?_
          exact R_sub [0, 1, 2, 3] rfl (jn_34 _ (by rw [if_pos (tsB_t h24)]))
  exact R_sub [2, 3, 1, 0] rfl (lp_4 _ _ _ (Nat.lt_succ_self _) (by omega) rfl)

theorem s_manyOf {Θ : Th} {σ : Mem} (k : Int) (hk : 0 ≤ k ∧ k < 8) (hn : 0 ≤ σ 1 7 ∧ σ 1 7 ≤ 9) : Spc Θ M_X8_manyOf 1 [.ref (Th.r Θ 1), .int (I k)] σ (Pu σ (fun z => z = mnN σ k)) := by
  refine Spc_of (by decide +kernel) (Nat.le_of_ble_eq_true rfl) (fun Γ hB hE => ?_)
  show Run Θ Γ 0 [(0, .ref (Th.r Θ 1)), (1, .int (I k))] [] σ
  refine R_canon (fun hcn => ?_)
  have q65 : ∀ x, rng (σ 65 x) := fun x => hcn.i 65 x (by decide) (by decide) (by decide)
  have q64 : ∀ x, rng (σ 64 x) := fun x => hcn.i 64 x (by decide) (by decide) (by decide)
  have q1 : ∀ x, rng (σ 1 x) := fun x => hcn.i 1 x (by decide) (by decide) (by decide)
  have q61 : ∀ x, rng (σ 61 x) := fun x => hcn.i 61 x (by decide) (by decide) (by decide)
  refine R_iconst hB dX8_manyOf_0 ?_
  refine R_istore_n hB (L' := [_, _, _]) dX8_manyOf_1 rfl (Nat.le_of_ble_eq_true rfl) rfl ?_
  refine R_iconst hB dX8_manyOf_2 ?_
  refine R_istore_n hB (L' := [_, _, _, _]) dX8_manyOf_3 rfl (Nat.le_of_ble_eq_true rfl) rfl ?_
  have lp_4 : ∀ (n_4 : Nat) (b d : Int), ((σ 1 7 - d).toNat) < n_4 → (0 ≤ d ∧ d ≤ σ 1 7) → (b = cnt (fun d : Nat => tsB σ (d : Int) k) d.toNat) → Run Θ Γ 4 [(0, .ref (Th.r Θ 1)), (1, .int (I k)), (2, .int (I b)), (3, .int (I d))] [] σ := by
    intro n_4
    induction n_4 with
    | zero => intro b d h_m; exact absurd h_m (Nat.not_lt_zero _)
    | succ n_4 ih_4 =>
      intro b d h_m hd hb
      refine R_iload_n hB (j := 3) dX8_manyOf_4 rfl rfl ?_
      refine R_aload_n hB (j := 0) dX8_manyOf_5 rfl rfl ?_
      refine R_geti hB fl_X8_117 dX8_manyOf_6 rfl ?_
      refine R_icmp_ge hB 40 (by omega) (by omega) dX8_manyOf_9 rfl (fun h9 => ?_) (fun h9 => ?_)
      · refine R_iload_n hB (j := 2) dX8_manyOf_40 rfl rfl ?_
        exact R_iret hB hE rfl dX8_manyOf_41 (⟨rfl, by unfold mnN; rw [hb]; congr 1; omega⟩)
      · refine R_iload_n hB (j := 2) dX8_manyOf_12 rfl rfl ?_
        refine R_aload_n hB (j := 0) dX8_manyOf_13 rfl rfl ?_
        refine R_getr hB (65) fl_X8_47 dX8_manyOf_14 rfl rfl ?_
        refine R_bipush hB dX8_manyOf_17 rfl ?_
        refine R_iload_n hB (j := 3) dX8_manyOf_19 rfl rfl ?_
        refine R_imul hB dX8_manyOf_20 ?_
        refine R_iload_n hB (j := 1) dX8_manyOf_21 rfl rfl ?_
        refine R_iadd hB dX8_manyOf_22 ?_
        refine R_zald hB rfl (by omega) dX8_manyOf_23 ?_
        have jn_32 : ∀ (x : Int), (x = if tsB σ d k = true then 1 else 0) → Run Θ Γ 32 [(0, .ref (Th.r Θ 1)), (1, .int (I k)), (2, .int (I b)), (3, .int (I d))] [.int (I x), .int (I b)] σ := by
          intro x hx
          refine R_iadd hB dX8_manyOf_32 ?_
          refine R_istore_n hB (L' := [_, _, _, _]) dX8_manyOf_33 rfl (Nat.le_of_ble_eq_true rfl) rfl ?_
          refine R_iinc hB (j := 3) (L' := [_, _, _, _]) dX8_manyOf_34 rfl (Nat.le_of_ble_eq_true rfl) rfl ?_
          refine R_goto hB 4 dX8_manyOf_37 rfl ?_
          exact R_sub [2, 3, 1, 0] rfl (ih_4 _ _ (by omega) (by omega) (by rw [cnt_k (fun d => tsB σ d k) hd.1, ← hb, hx]))
        refine R_if_eq hB 31 (q65 _) dX8_manyOf_24 rfl (fun h24 => ?_) (fun h24 => ?_)
        · refine R_iconst hB dX8_manyOf_31 ?_
          exact R_sub [0, 1, 2, 3] rfl (jn_32 _ (by rw [if_neg (tsB_f h24)]))
        · refine R_iconst hB dX8_manyOf_27 ?_
          refine R_goto hB 32 dX8_manyOf_28 rfl ?_
          exact R_sub [0, 1, 2, 3] rfl (jn_32 _ (by rw [if_pos (tsB_t h24)]))
  exact R_sub [2, 3, 1, 0] rfl (lp_4 _ _ _ (Nat.lt_succ_self _) (by omega) rfl)

theorem s_isProven {Θ : Th} {σ : Mem} (d : Int) (hd : 0 ≤ d ∧ d < 9) (hn : 0 ≤ σ 1 2 ∧ σ 1 2 ≤ 8) : Spc Θ M_X8_isProven 1 [.ref (Th.r Θ 1), .int (I d)] σ (Pu σ (fun z => z = if prB σ d = true then 1 else 0)) := by
  refine Spc_of (by decide +kernel) (Nat.le_of_ble_eq_true rfl) (fun Γ hB hE => ?_)
  show Run Θ Γ 0 [(0, .ref (Th.r Θ 1)), (1, .int (I d))] [] σ
  refine R_canon (fun hcn => ?_)
  have q65 : ∀ x, rng (σ 65 x) := fun x => hcn.i 65 x (by decide) (by decide) (by decide)
  have q64 : ∀ x, rng (σ 64 x) := fun x => hcn.i 64 x (by decide) (by decide) (by decide)
  have q1 : ∀ x, rng (σ 1 x) := fun x => hcn.i 1 x (by decide) (by decide) (by decide)
  have q61 : ∀ x, rng (σ 61 x) := fun x => hcn.i 61 x (by decide) (by decide) (by decide)
  refine R_aload_n hB (j := 0) dX8_isProven_0 rfl rfl ?_
  refine R_geti hB fl_X8_154 dX8_isProven_1 rfl ?_
  refine R_iload_n hB (j := 1) dX8_isProven_4 rfl rfl ?_
  refine P_cS1 hB (s_isIn _ _ (q1 14) (by omega)) ms_X8_157 (by decide) dX8_isProven_5 rfl rfl (Nat.le_of_ble_eq_true rfl) (fun z5 h5 => ?_)
  refine R_if_ne hB 30 (by rw [h5]; split <;> omega) dX8_isProven_8 rfl (fun h8 => ?_) (fun h8 => ?_)
  · have hp : mP σ d = false := by
      refine decide_eq_false (fun q => ?_)
      rw [if_neg q] at h5
      exact h8 h5
    refine R_iconst hB dX8_isProven_30 ?_
    exact R_zret hB hE rfl (rfl) dX8_isProven_31 (⟨rfl, by
      unfold prB
      rw [hp]
      first
      | rfl
      | (rw [← hw, Bool.true_and, decide_eq_true (show σ 1 13 ≤ z16 by omega)]; rfl)
      | (rw [← hw, Bool.true_and, decide_eq_false (show ¬ σ 1 13 ≤ z16 by omega)]; rfl)⟩)
  · have hp : mP σ d = true := by
      refine decide_eq_true (fun q => ?_)
      rw [if_pos q] at h5
      omega
    refine R_aload_n hB (j := 0) dX8_isProven_11 rfl rfl ?_
    refine R_iload_n hB (j := 1) dX8_isProven_12 rfl rfl ?_
    refine P_cV1 hB (s_whoNow d hd hn) mv_X8_189 rfl rfl (by decide) dX8_isProven_13 rfl rfl (Nat.le_of_ble_eq_true rfl) (fun z13 h13 => ?_)
    have hbb := bsum_in (fun k : Nat => tsB σ d (k : Int)) (σ 1 2).toNat
    rw [← h13] at hbb
    have h256 := p2_256 (σ 1 2).toNat (by omega)
    refine P_cS1 hB (s_ones _ (by omega)) ms_X8_192 (by decide) dX8_isProven_16 rfl rfl (Nat.le_of_ble_eq_true rfl) (fun z16 h16 => ?_)
    have hw : z16 = whN σ d := by rw [h16, h13, pc8_bsum _ (by omega)]; rfl
    have hcb := cnt_in (fun k : Nat => tsB σ d (k : Int)) (σ 1 2).toNat
    have hcw : whN σ d = cnt (fun k : Nat => tsB σ d (k : Int)) (σ 1 2).toNat := rfl
    refine R_aload_n hB (j := 0) dX8_isProven_19 rfl rfl ?_
    refine R_geti hB fl_X8_93 dX8_isProven_20 rfl ?_
    refine R_icmp_lt hB 30 (by omega) (q1 13) dX8_isProven_23 rfl (fun h23 => ?_) (fun h23 => ?_)
    · refine R_iconst hB dX8_isProven_30 ?_
      exact R_zret hB hE rfl (rfl) dX8_isProven_31 (⟨rfl, by
        unfold prB
        rw [hp]
        first
        | rfl
        | (rw [← hw, Bool.true_and, decide_eq_true (show σ 1 13 ≤ z16 by omega)]; rfl)
        | (rw [← hw, Bool.true_and, decide_eq_false (show ¬ σ 1 13 ≤ z16 by omega)]; rfl)⟩)
    · refine R_iconst hB dX8_isProven_26 ?_
      refine R_goto hB 31 dX8_isProven_27 rfl ?_
      exact R_zret hB hE rfl (rfl) dX8_isProven_31 (⟨rfl, by
        unfold prB
        rw [hp]
        first
        | rfl
        | (rw [← hw, Bool.true_and, decide_eq_true (show σ 1 13 ≤ z16 by omega)]; rfl)
        | (rw [← hw, Bool.true_and, decide_eq_false (show ¬ σ 1 13 ≤ z16 by omega)]; rfl)⟩)

theorem s_marksOf {Θ : Th} {σ : Mem} (k so : Int) (hk : 0 ≤ k ∧ k < 8) (hs : -1 ≤ so ∧ so < 4) (hn : 0 ≤ σ 1 7 ∧ σ 1 7 ≤ 8) : Spc Θ M_X8_marksOf 1 [.ref (Th.r Θ 1), .int (I k), .int (I so)] σ (Pu σ (fun z => z = mkN σ k so)) := by
  refine Spc_of (by decide +kernel) (Nat.le_of_ble_eq_true rfl) (fun Γ hB hE => ?_)
  show Run Θ Γ 0 [(0, .ref (Th.r Θ 1)), (1, .int (I k)), (2, .int (I so))] [] σ
  refine R_canon (fun hcn => ?_)
  have q65 : ∀ x, rng (σ 65 x) := fun x => hcn.i 65 x (by decide) (by decide) (by decide)
  have q64 : ∀ x, rng (σ 64 x) := fun x => hcn.i 64 x (by decide) (by decide) (by decide)
  have q1 : ∀ x, rng (σ 1 x) := fun x => hcn.i 1 x (by decide) (by decide) (by decide)
  have q61 : ∀ x, rng (σ 61 x) := fun x => hcn.i 61 x (by decide) (by decide) (by decide)
  refine R_iconst hB dX8_marksOf_0 ?_
  refine R_istore_n hB (L' := [_, _, _, _]) dX8_marksOf_1 rfl (Nat.le_of_ble_eq_true rfl) rfl ?_
  refine R_iconst hB dX8_marksOf_2 ?_
  refine R_istore hB (L' := [_, _, _, _, _]) dX8_marksOf_3 (Nat.le_of_ble_eq_true rfl) rfl ?_
  have lp_5 : ∀ (n_5 : Nat) (b d : Int), ((σ 1 7 - d).toNat) < n_5 → (0 ≤ d ∧ d ≤ σ 1 7) → (b = cnt (fun d : Nat => (fun d : Int => decide (σ 64 (8 * d + k) = 3 ∧ (so = -1 ∨ σ 61 d = so))) (d : Int)) d.toNat) → Run Θ Γ 5 [(0, .ref (Th.r Θ 1)), (1, .int (I k)), (2, .int (I so)), (3, .int (I b)), (4, .int (I d))] [] σ := by
    intro n_5
    induction n_5 with
    | zero => intro b d h_m; exact absurd h_m (Nat.not_lt_zero _)
    | succ n_5 ih_5 =>
      intro b d h_m hd hb
      refine R_iload hB (j := 4) dX8_marksOf_5 rfl ?_
      refine R_aload_n hB (j := 0) dX8_marksOf_7 rfl rfl ?_
      refine R_geti hB fl_X8_117 dX8_marksOf_8 rfl ?_
      refine R_icmp_ge hB 60 (by omega) (by omega) dX8_marksOf_11 rfl (fun h11 => ?_) (fun h11 => ?_)
      · refine R_iload_n hB (j := 3) dX8_marksOf_60 rfl rfl ?_
        exact R_iret hB hE rfl dX8_marksOf_61 (⟨rfl, by unfold mkN; rw [hb]; congr 1; omega⟩)
      · refine R_iload_n hB (j := 3) dX8_marksOf_14 rfl rfl ?_
        refine R_aload_n hB (j := 0) dX8_marksOf_15 rfl rfl ?_
        refine R_getr hB (64) fl_X8_44 dX8_marksOf_16 rfl rfl ?_
        refine R_bipush hB dX8_marksOf_19 rfl ?_
        refine R_iload hB (j := 4) dX8_marksOf_21 rfl ?_
        refine R_imul hB dX8_marksOf_23 ?_
        refine R_iload_n hB (j := 1) dX8_marksOf_24 rfl rfl ?_
        refine R_iadd hB dX8_marksOf_25 ?_
        refine R_iald hB rfl (by omega) dX8_marksOf_26 ?_
        refine R_iconst hB dX8_marksOf_27 ?_
        have jn_52 : ∀ (x : Int), (x = if (fun d : Int => decide (σ 64 (8 * d + k) = 3 ∧ (so = -1 ∨ σ 61 d = so))) d = true then 1 else 0) → Run Θ Γ 52 [(0, .ref (Th.r Θ 1)), (1, .int (I k)), (2, .int (I so)), (3, .int (I b)), (4, .int (I d))] [.int (I x), .int (I b)] σ := by
          intro x hx
          refine R_iadd hB dX8_marksOf_52 ?_
          refine R_istore_n hB (L' := [_, _, _, _, _]) dX8_marksOf_53 rfl (Nat.le_of_ble_eq_true rfl) rfl ?_
          refine R_iinc hB (j := 4) (L' := [_, _, _, _, _]) dX8_marksOf_54 rfl (Nat.le_of_ble_eq_true rfl) rfl ?_
          refine R_goto hB 5 dX8_marksOf_57 rfl ?_
          exact R_sub [2, 3, 4, 1, 0] rfl (ih_5 _ _ (by omega) (by omega) (by rw [cnt_k (fun d : Int => decide (σ 64 (8 * d + k) = 3 ∧ (so = -1 ∨ σ 61 d = so))) hd.1, ← hb, hx]))
        refine R_icmp_ne hB 51 (q64 _) (by omega) dX8_marksOf_28 rfl (fun h28 => ?_) (fun h28 => ?_)
        · refine R_iconst hB dX8_marksOf_51 ?_
          exact R_sub [0, 1, 2, 3, 4] rfl (jn_52 _ (by rw [if_neg (fun q => by have := of_decide_eq_true q; omega)]))
        · refine R_iload_n hB (j := 2) dX8_marksOf_31 rfl rfl ?_
          refine R_iconst hB dX8_marksOf_32 ?_
          refine R_icmp_eq hB 47 (by omega) (by omega) dX8_marksOf_33 rfl (fun h33 => ?_) (fun h33 => ?_)
          · refine R_iconst hB dX8_marksOf_47 ?_
            refine R_goto hB 52 dX8_marksOf_48 rfl ?_
            exact R_sub [0, 1, 2, 3, 4] rfl (jn_52 _ (by rw [if_pos (decide_eq_true (by omega))]))
          · refine R_aload_n hB (j := 0) dX8_marksOf_36 rfl rfl ?_
            refine R_getr hB (61) fl_X8_34 dX8_marksOf_37 rfl rfl ?_
            refine R_iload hB (j := 4) dX8_marksOf_40 rfl ?_
            refine R_iald hB rfl (by omega) dX8_marksOf_42 ?_
            refine R_iload_n hB (j := 2) dX8_marksOf_43 rfl rfl ?_
            refine R_icmp_ne hB 51 (q61 _) (by omega) dX8_marksOf_44 rfl (fun h44 => ?_) (fun h44 => ?_)
            · refine R_iconst hB dX8_marksOf_51 ?_
              exact R_sub [0, 1, 2, 3, 4] rfl (jn_52 _ (by rw [if_neg (fun q => by have := of_decide_eq_true q; omega)]))
            · refine R_iconst hB dX8_marksOf_47 ?_
              refine R_goto hB 52 dX8_marksOf_48 rfl ?_
              exact R_sub [0, 1, 2, 3, 4] rfl (jn_52 _ (by rw [if_pos (decide_eq_true (by omega))]))
  exact R_sub [2, 3, 4, 1, 0] rfl (lp_5 _ _ _ (Nat.lt_succ_self _) (by omega) rfl)

theorem s_provenNow {Θ : Th} {σ : Mem} (hn : 0 ≤ σ 1 2 ∧ σ 1 2 ≤ 8) (hd8 : 0 ≤ σ 1 7 ∧ σ 1 7 ≤ 8) : Spc Θ M_X8_provenNow 1 [.ref (Th.r Θ 1)] σ (Pu σ (fun z => z = cnt (fun d : Nat => prB σ (d : Int)) (σ 1 7).toNat)) := by
  refine Spc_of (by decide +kernel) (Nat.le_of_ble_eq_true rfl) (fun Γ hB hE => ?_)
  show Run Θ Γ 0 [(0, .ref (Th.r Θ 1))] [] σ
  refine R_iconst hB dX8_provenNow_0 ?_
  refine R_istore_n hB (L' := [_, _]) dX8_provenNow_1 rfl (Nat.le_of_ble_eq_true rfl) rfl ?_
  refine R_iconst hB dX8_provenNow_2 ?_
  refine R_istore_n hB (L' := [_, _, _]) dX8_provenNow_3 rfl (Nat.le_of_ble_eq_true rfl) rfl ?_
  have lp_4 : ∀ (n_4 : Nat) (b d : Int), ((σ 1 7 - d).toNat) < n_4 → (0 ≤ d ∧ d ≤ σ 1 7) → (b = cnt (fun d : Nat => prB σ (d : Int)) d.toNat) → Run Θ Γ 4 [(0, .ref (Th.r Θ 1)), (1, .int (I b)), (2, .int (I d))] [] σ := by
    intro n_4
    induction n_4 with
    | zero => intro b d h_m; exact absurd h_m (Nat.not_lt_zero _)
    | succ n_4 ih_4 =>
      intro b d h_m hd hb
      refine R_iload_n hB (j := 2) dX8_provenNow_4 rfl rfl ?_
      refine R_aload_n hB (j := 0) dX8_provenNow_5 rfl rfl ?_
      refine R_geti hB fl_X8_117 dX8_provenNow_6 rfl ?_
      refine R_icmp_ge hB 34 (by omega) (by omega) dX8_provenNow_9 rfl (fun h9 => ?_) (fun h9 => ?_)
      · refine R_iload_n hB (j := 1) dX8_provenNow_34 rfl rfl ?_
        exact R_iret hB hE rfl dX8_provenNow_35 (⟨rfl, by rw [hb]; congr 1; omega⟩)
      · refine R_iload_n hB (j := 1) dX8_provenNow_12 rfl rfl ?_
        refine R_aload_n hB (j := 0) dX8_provenNow_13 rfl rfl ?_
        refine R_iload_n hB (j := 2) dX8_provenNow_14 rfl rfl ?_
        refine P_cV1 hB (s_isProven _ (by omega) hn) mv_X8_211 rfl rfl (by decide) dX8_provenNow_15 rfl rfl (Nat.le_of_ble_eq_true rfl) (fun z15 h15 => ?_)
        have jn_26 : ∀ (x : Int), (x = if prB σ d = true then 1 else 0) → Run Θ Γ 26 [(0, .ref (Th.r Θ 1)), (1, .int (I b)), (2, .int (I d))] [.int (I x), .int (I b)] σ := by
          intro x hx
          refine R_iadd hB dX8_provenNow_26 ?_
          refine R_istore_n hB (L' := [_, _, _]) dX8_provenNow_27 rfl (Nat.le_of_ble_eq_true rfl) rfl ?_
          refine R_iinc hB (j := 2) (L' := [_, _, _]) dX8_provenNow_28 rfl (Nat.le_of_ble_eq_true rfl) rfl ?_
          refine R_goto hB 4 dX8_provenNow_31 rfl ?_
          exact R_sub [2, 1, 0] rfl (ih_4 _ _ (by omega) (by omega) (by rw [cnt_k (prB σ) hd.1, ← hb, hx]))
        refine R_if_eq hB 25 (by rw [h15]; split <;> omega) dX8_provenNow_18 rfl (fun h18 => ?_) (fun h18 => ?_)
        · refine R_iconst hB dX8_provenNow_25 ?_
          exact R_sub [0, 1, 2] rfl (jn_26 _ (by
            have hz : z15 = 0 ∨ z15 = 1 := by rw [h15]; split <;> omega
            rw [← h15]; omega))
        · refine R_iconst hB dX8_provenNow_21 ?_
          refine R_goto hB 26 dX8_provenNow_22 rfl ?_
          exact R_sub [0, 1, 2] rfl (jn_26 _ (by
            have hz : z15 = 0 ∨ z15 = 1 := by rw [h15]; split <;> omega
            rw [← h15]; omega))
  exact R_sub [2, 1, 0] rfl (lp_4 _ _ _ (Nat.lt_succ_self _) (by omega) rfl)

theorem s_marksNow {Θ : Th} {σ : Mem} (hn : 0 ≤ σ 1 2 ∧ σ 1 2 ≤ 8) (hd8 : 0 ≤ σ 1 7 ∧ σ 1 7 ≤ 8) : Spc Θ M_X8_marksNow 1 [.ref (Th.r Θ 1)] σ (Pu σ (fun z => z = sumN (fun k : Nat => mkN σ (k : Int) (-1)) (σ 1 2).toNat)) := by
  refine Spc_of (by decide +kernel) (Nat.le_of_ble_eq_true rfl) (fun Γ hB hE => ?_)
  show Run Θ Γ 0 [(0, .ref (Th.r Θ 1))] [] σ
  refine R_iconst hB dX8_marksNow_0 ?_
  refine R_istore_n hB (L' := [_, _]) dX8_marksNow_1 rfl (Nat.le_of_ble_eq_true rfl) rfl ?_
  refine R_iconst hB dX8_marksNow_2 ?_
  refine R_istore_n hB (L' := [_, _, _]) dX8_marksNow_3 rfl (Nat.le_of_ble_eq_true rfl) rfl ?_
  have lp_4 : ∀ (n_4 : Nat) (b k : Int), ((σ 1 2 - k).toNat) < n_4 → (0 ≤ k ∧ k ≤ σ 1 2) → (b = sumN (fun k : Nat => mkN σ (k : Int) (-1)) k.toNat) → Run Θ Γ 4 [(0, .ref (Th.r Θ 1)), (1, .int (I b)), (2, .int (I k))] [] σ := by
    intro n_4
    induction n_4 with
    | zero => intro b k h_m; exact absurd h_m (Nat.not_lt_zero _)
    | succ n_4 ih_4 =>
      intro b k h_m hk hb
      refine R_iload_n hB (j := 2) dX8_marksNow_4 rfl rfl ?_
      refine R_aload_n hB (j := 0) dX8_marksNow_5 rfl rfl ?_
      refine R_geti hB fl_X8_114 dX8_marksNow_6 rfl ?_
      refine R_icmp_ge hB 27 (by omega) (by omega) dX8_marksNow_9 rfl (fun h9 => ?_) (fun h9 => ?_)
      · refine R_iload_n hB (j := 1) dX8_marksNow_27 rfl rfl ?_
        exact R_iret hB hE rfl dX8_marksNow_28 (⟨rfl, by rw [hb]; congr 1; omega⟩)
      · refine R_iload_n hB (j := 1) dX8_marksNow_12 rfl rfl ?_
        refine R_aload_n hB (j := 0) dX8_marksNow_13 rfl rfl ?_
        refine R_iload_n hB (j := 2) dX8_marksNow_14 rfl rfl ?_
        refine R_iconst hB dX8_marksNow_15 ?_
        refine P_cV1 hB (s_marksOf _ _ (by omega) (by omega) hd8) mv_X8_247 rfl rfl (by decide) dX8_marksNow_16 rfl rfl (Nat.le_of_ble_eq_true rfl) (fun z16 h16 => ?_)
        refine R_iadd hB dX8_marksNow_19 ?_
        refine R_istore_n hB (L' := [_, _, _]) dX8_marksNow_20 rfl (Nat.le_of_ble_eq_true rfl) rfl ?_
        refine R_iinc hB (j := 2) (L' := [_, _, _]) dX8_marksNow_21 rfl (Nat.le_of_ble_eq_true rfl) rfl ?_
        refine R_goto hB 4 dX8_marksNow_24 rfl ?_
        exact R_sub [2, 1, 0] rfl (ih_4 _ _ (by omega) (by omega) (by rw [sumN_k (fun k => mkN σ k (-1)) hk.1, ← hb, h16]))
  exact R_sub [2, 1, 0] rfl (lp_4 _ _ _ (Nat.lt_succ_self _) (by omega) rfl)

theorem s_wakingsNow {Θ : Th} {σ : Mem} (hn : 0 ≤ σ 1 2 ∧ σ 1 2 ≤ 8) : Spc Θ M_X8_wakingsNow 1 [.ref (Th.r Θ 1)] σ (Pu σ (fun z => z = sumN (fun k : Nat => σ 66 (k : Int)) (σ 1 2).toNat)) := by
  refine Spc_of (by decide +kernel) (Nat.le_of_ble_eq_true rfl) (fun Γ hB hE => ?_)
  show Run Θ Γ 0 [(0, .ref (Th.r Θ 1))] [] σ
  refine R_iconst hB dX8_wakingsNow_0 ?_
  refine R_istore_n hB (L' := [_, _]) dX8_wakingsNow_1 rfl (Nat.le_of_ble_eq_true rfl) rfl ?_
  refine R_iconst hB dX8_wakingsNow_2 ?_
  refine R_istore_n hB (L' := [_, _, _]) dX8_wakingsNow_3 rfl (Nat.le_of_ble_eq_true rfl) rfl ?_
  have lp_4 : ∀ (n_4 : Nat) (b k : Int), ((σ 1 2 - k).toNat) < n_4 → (0 ≤ k ∧ k ≤ σ 1 2) → (b = sumN (fun k : Nat => σ 66 (k : Int)) k.toNat) → Run Θ Γ 4 [(0, .ref (Th.r Θ 1)), (1, .int (I b)), (2, .int (I k))] [] σ := by
    intro n_4
    induction n_4 with
    | zero => intro b k h_m; exact absurd h_m (Nat.not_lt_zero _)
    | succ n_4 ih_4 =>
      intro b k h_m hk hb
      refine R_iload_n hB (j := 2) dX8_wakingsNow_4 rfl rfl ?_
      refine R_aload_n hB (j := 0) dX8_wakingsNow_5 rfl rfl ?_
      refine R_geti hB fl_X8_114 dX8_wakingsNow_6 rfl ?_
      refine R_icmp_ge hB 27 (by omega) (by omega) dX8_wakingsNow_9 rfl (fun h9 => ?_) (fun h9 => ?_)
      · refine R_iload_n hB (j := 1) dX8_wakingsNow_27 rfl rfl ?_
        exact R_iret hB hE rfl dX8_wakingsNow_28 (⟨rfl, by rw [hb]; congr 1; omega⟩)
      · refine R_iload_n hB (j := 1) dX8_wakingsNow_12 rfl rfl ?_
        refine R_aload_n hB (j := 0) dX8_wakingsNow_13 rfl rfl ?_
        refine R_getr hB (66) fl_X8_50 dX8_wakingsNow_14 rfl rfl ?_
        refine R_iload_n hB (j := 2) dX8_wakingsNow_17 rfl rfl ?_
        refine R_iald hB rfl (by omega) dX8_wakingsNow_18 ?_
        refine R_iadd hB dX8_wakingsNow_19 ?_
        refine R_istore_n hB (L' := [_, _, _]) dX8_wakingsNow_20 rfl (Nat.le_of_ble_eq_true rfl) rfl ?_
        refine R_iinc hB (j := 2) (L' := [_, _, _]) dX8_wakingsNow_21 rfl (Nat.le_of_ble_eq_true rfl) rfl ?_
        refine R_goto hB 4 dX8_wakingsNow_24 rfl ?_
        exact R_sub [2, 1, 0] rfl (ih_4 _ _ (by omega) (by omega) (by rw [sumN_k (σ 66) hk.1, ← hb]))
  exact R_sub [2, 1, 0] rfl (lp_4 _ _ _ (Nat.lt_succ_self _) (by omega) rfl)
