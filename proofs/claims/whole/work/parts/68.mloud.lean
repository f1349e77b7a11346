theorem s_rowOf {Θ : Th} {σ : Mem} (k : Int) (hk : 0 ≤ k ∧ k < 100) : Spc Θ M_X8_rowOf 1 [.int (I k)] σ (Pu σ (fun z => z = sv 0 (k % 6))) := by
  refine Spc_of (by decide +kernel) (Nat.le_of_ble_eq_true rfl) (fun Γ hB hE => ?_)
  show Run Θ Γ 0 [(0, .int (I k))] [] σ
  refine R_iload_n hB (j := 0) dX8_rowOf_0 rfl rfl ?_
  refine R_bipush hB dX8_rowOf_1 rfl ?_
  refine R_irem hB ((k) % (6)) (i_ne0 (by omega) (by omega)) (i_rem (by omega) (by omega)) dX8_rowOf_3 ?_
  refine R_istore_n hB (L' := [_, _]) dX8_rowOf_4 rfl (Nat.le_of_ble_eq_true rfl) rfl ?_
  refine R_iload_n hB (j := 0) dX8_rowOf_5 rfl rfl ?_
  refine R_if_ne hB 13 (by omega) dX8_rowOf_6 rfl (fun h6 => ?_) (fun h6 => ?_)
  · refine R_iload_n hB (j := 0) dX8_rowOf_13 rfl rfl ?_
    refine R_iconst hB dX8_rowOf_14 ?_
    refine R_icmp_ne hB 22 (by omega) (by omega) dX8_rowOf_15 rfl (fun h15 => ?_) (fun h15 => ?_)
    · refine R_iload_n hB (j := 0) dX8_rowOf_22 rfl rfl ?_
      refine R_iconst hB dX8_rowOf_23 ?_
      refine R_icmp_ne hB 31 (by omega) (by omega) dX8_rowOf_24 rfl (fun h24 => ?_) (fun h24 => ?_)
      · refine R_iload_n hB (j := 0) dX8_rowOf_31 rfl rfl ?_
        refine R_iconst hB dX8_rowOf_32 ?_
        refine R_icmp_ne hB 41 (by omega) (by omega) dX8_rowOf_33 rfl (fun h33 => ?_) (fun h33 => ?_)
        · refine R_iload_n hB (j := 0) dX8_rowOf_41 rfl rfl ?_
          refine R_iconst hB dX8_rowOf_42 ?_
          refine R_icmp_ne hB 50 (by omega) (by omega) dX8_rowOf_43 rfl (fun h43 => ?_) (fun h43 => ?_)
          · refine R_iconst hB dX8_rowOf_50 ?_
            exact R_iret hB hE rfl dX8_rowOf_51 (⟨rfl, by
              have q : ∀ n : Nat, n < 6 → sv 0 (n : Int) = if n = 0 then 1 else if n = 1 then 3 else if n = 2 then 5 else if n = 3 then 6 else if n = 4 then 4 else 2 := by decide
              have q2 := q (k % 6).toNat (by omega)
              rw [show (((k % 6).toNat : Nat) : Int) = k % 6 by omega] at q2
              rw [q2]
              (repeat split) <;> omega⟩)
          · refine R_iconst hB dX8_rowOf_46 ?_
            refine R_goto hB 51 dX8_rowOf_47 rfl ?_
            exact R_iret hB hE rfl dX8_rowOf_51 (⟨rfl, by
              have q : ∀ n : Nat, n < 6 → sv 0 (n : Int) = if n = 0 then 1 else if n = 1 then 3 else if n = 2 then 5 else if n = 3 then 6 else if n = 4 then 4 else 2 := by decide
              have q2 := q (k % 6).toNat (by omega)
              rw [show (((k % 6).toNat : Nat) : Int) = k % 6 by omega] at q2
              rw [q2]
              (repeat split) <;> omega⟩)
        · refine R_bipush hB dX8_rowOf_36 rfl ?_
          refine R_goto hB 51 dX8_rowOf_38 rfl ?_
          exact R_iret hB hE rfl dX8_rowOf_51 (⟨rfl, by
            have q : ∀ n : Nat, n < 6 → sv 0 (n : Int) = if n = 0 then 1 else if n = 1 then 3 else if n = 2 then 5 else if n = 3 then 6 else if n = 4 then 4 else 2 := by decide
            have q2 := q (k % 6).toNat (by omega)
            rw [show (((k % 6).toNat : Nat) : Int) = k % 6 by omega] at q2
            rw [q2]
            (repeat split) <;> omega⟩)
      · refine R_iconst hB dX8_rowOf_27 ?_
        refine R_goto hB 51 dX8_rowOf_28 rfl ?_
        exact R_iret hB hE rfl dX8_rowOf_51 (⟨rfl, by
          have q : ∀ n : Nat, n < 6 → sv 0 (n : Int) = if n = 0 then 1 else if n = 1 then 3 else if n = 2 then 5 else if n = 3 then 6 else if n = 4 then 4 else 2 := by decide
          have q2 := q (k % 6).toNat (by omega)
          rw [show (((k % 6).toNat : Nat) : Int) = k % 6 by omega] at q2
          rw [q2]
          (repeat split) <;> omega⟩)
    · refine R_iconst hB dX8_rowOf_18 ?_
      refine R_goto hB 51 dX8_rowOf_19 rfl ?_
      exact R_iret hB hE rfl dX8_rowOf_51 (⟨rfl, by
        have q : ∀ n : Nat, n < 6 → sv 0 (n : Int) = if n = 0 then 1 else if n = 1 then 3 else if n = 2 then 5 else if n = 3 then 6 else if n = 4 then 4 else 2 := by decide
        have q2 := q (k % 6).toNat (by omega)
        rw [show (((k % 6).toNat : Nat) : Int) = k % 6 by omega] at q2
        rw [q2]
        (repeat split) <;> omega⟩)
  · refine R_iconst hB dX8_rowOf_9 ?_
    refine R_goto hB 51 dX8_rowOf_10 rfl ?_
    exact R_iret hB hE rfl dX8_rowOf_51 (⟨rfl, by
      have q : ∀ n : Nat, n < 6 → sv 0 (n : Int) = if n = 0 then 1 else if n = 1 then 3 else if n = 2 then 5 else if n = 3 then 6 else if n = 4 then 4 else 2 := by decide
      have q2 := q (k % 6).toNat (by omega)
      rw [show (((k % 6).toNat : Nat) : Int) = k % 6 by omega] at q2
      rw [q2]
      (repeat split) <;> omega⟩)

theorem s_deepNow {Θ : Th} {σ : Mem} (k g : Int) (hk : 0 ≤ k ∧ k < 9) (hg : 0 ≤ g ∧ g < 100) (h2 : 0 ≤ σ 57 k ∧ σ 57 k ≤ 3) (h3 : 0 ≤ σ 58 k ∧ σ 58 k ≤ 3) : Spc Θ M_X8_deepNow 1 [.ref (Th.r Θ 1), .int (I k), .int (I g)] σ (Pu σ (fun z => z = deepOf (σ 57 k) (σ 58 k) g)) := by
  refine Spc_of (by decide +kernel) (Nat.le_of_ble_eq_true rfl) (fun Γ hB hE => ?_)
  show Run Θ Γ 0 [(0, .ref (Th.r Θ 1)), (1, .int (I k)), (2, .int (I g))] [] σ
  refine R_iload_n hB (j := 2) dX8_deepNow_0 rfl rfl ?_
  refine P_cS1 hB (s_rowOf _ (by omega)) ms_X8_148 (by decide) dX8_deepNow_1 rfl rfl (Nat.le_of_ble_eq_true rfl) (fun z1 h1 => ?_)
  have hv := sv0_in (x := g % 6) (by omega)
  rw [← h1] at hv
  refine R_aload_n hB (j := 0) dX8_deepNow_4 rfl rfl ?_
  refine R_getr hB (57) fl_X8_22 dX8_deepNow_5 rfl rfl ?_
  refine R_iload_n hB (j := 1) dX8_deepNow_8 rfl rfl ?_
  refine R_iald hB rfl (by omega) dX8_deepNow_9 ?_
  refine R_iadd hB dX8_deepNow_10 ?_
  refine R_istore_n hB (L' := [_, _, _, _]) dX8_deepNow_11 rfl (Nat.le_of_ble_eq_true rfl) rfl ?_
  refine R_aload_n hB (j := 1) dX8_deepNow_12 rfl rfl ?_
  refine R_getr hB (58) fl_X8_25 dX8_deepNow_13 rfl rfl ?_
  refine R_iload_n hB (j := 2) dX8_deepNow_16 rfl rfl ?_
  refine R_iald hB rfl (by omega) dX8_deepNow_17 ?_
  refine R_if_ne hB 27 (by omega) dX8_deepNow_18 rfl (fun h18 => ?_) (fun h18 => ?_)
  · refine R_aload_n hB (j := 1) dX8_deepNow_27 rfl rfl ?_
    refine R_getr hB (58) fl_X8_25 dX8_deepNow_28 rfl rfl ?_
    refine R_iload_n hB (j := 2) dX8_deepNow_31 rfl rfl ?_
    refine R_iald hB rfl (by omega) dX8_deepNow_32 ?_
    refine R_iconst hB dX8_deepNow_33 ?_
    refine R_icmp_ne hB 52 (by omega) (by omega) dX8_deepNow_34 rfl (fun h34 => ?_) (fun h34 => ?_)
    · refine R_aload_n hB (j := 1) dX8_deepNow_52 rfl rfl ?_
      refine R_getr hB (58) fl_X8_25 dX8_deepNow_53 rfl rfl ?_
      refine R_iload_n hB (j := 2) dX8_deepNow_56 rfl rfl ?_
      refine R_iald hB rfl (by omega) dX8_deepNow_57 ?_
      refine R_iconst hB dX8_deepNow_58 ?_
      refine R_icmp_ne hB 75 (by omega) (by omega) dX8_deepNow_59 rfl (fun h59 => ?_) (fun h59 => ?_)
      · refine R_iconst hB dX8_deepNow_75 ?_
        exact R_iret hB hE rfl dX8_deepNow_76 (⟨rfl, by unfold deepOf; rw [← h1]; (repeat split) <;> omega⟩)
      · refine R_iload_n hB (j := 0) dX8_deepNow_62 rfl rfl ?_
        refine R_iconst hB dX8_deepNow_63 ?_
        refine R_icmp_ge hB 71 (by omega) (by omega) dX8_deepNow_64 rfl (fun h64 => ?_) (fun h64 => ?_)
        · refine R_iconst hB dX8_deepNow_71 ?_
          refine R_goto hB 76 dX8_deepNow_72 rfl ?_
          exact R_iret hB hE rfl dX8_deepNow_76 (⟨rfl, by unfold deepOf; rw [← h1]; (repeat split) <;> omega⟩)
        · refine R_iload_n hB (j := 0) dX8_deepNow_67 rfl rfl ?_
          refine R_goto hB 76 dX8_deepNow_68 rfl ?_
          exact R_iret hB hE rfl dX8_deepNow_76 (⟨rfl, by unfold deepOf; rw [← h1]; (repeat split) <;> omega⟩)
    · refine R_iload_n hB (j := 0) dX8_deepNow_37 rfl rfl ?_
      refine R_iconst hB dX8_deepNow_38 ?_
      refine R_icmp_le hB 48 (by omega) (by omega) dX8_deepNow_39 rfl (fun h39 => ?_) (fun h39 => ?_)
      · refine R_iconst hB dX8_deepNow_48 ?_
        refine R_goto hB 76 dX8_deepNow_49 rfl ?_
        exact R_iret hB hE rfl dX8_deepNow_76 (⟨rfl, by unfold deepOf; rw [← h1]; (repeat split) <;> omega⟩)
      · refine R_iload_n hB (j := 0) dX8_deepNow_42 rfl rfl ?_
        refine R_iconst hB dX8_deepNow_43 ?_
        refine R_isub hB dX8_deepNow_44 ?_
        refine R_goto hB 76 dX8_deepNow_45 rfl ?_
        exact R_iret hB hE rfl dX8_deepNow_76 (⟨rfl, by unfold deepOf; rw [← h1]; (repeat split) <;> omega⟩)
  · refine R_iload_n hB (j := 0) dX8_deepNow_21 rfl rfl ?_
    refine R_iconst hB dX8_deepNow_22 ?_
    refine R_iadd hB dX8_deepNow_23 ?_
    refine R_goto hB 76 dX8_deepNow_24 rfl ?_
    exact R_iret hB hE rfl dX8_deepNow_76 (⟨rfl, by unfold deepOf; rw [← h1]; (repeat split) <;> omega⟩)

theorem s_mloud {Θ : Th} {σ : Mem} (d k : Int) (hd : 0 ≤ d ∧ d < 9) (hk : 0 ≤ k ∧ k < 9) (h0 : 0 ≤ σ 55 k ∧ σ 55 k ≤ 9) (h1 : 0 ≤ σ 60 d ∧ σ 60 d ≤ 9) (h2 : 0 ≤ σ 61 d ∧ σ 61 d < 4) : Spc Θ M_X8_loudOf 1 [.ref (Th.r Θ 1), .int (I d), .int (I k)] σ (Pu σ (fun z => z = loudOf (σ 55 k) (σ 60 d) (σ 61 d))) := by
  refine Spc_of (by decide +kernel) (Nat.le_of_ble_eq_true rfl) (fun Γ hB hE => ?_)
  show Run Θ Γ 0 [(0, .ref (Th.r Θ 1)), (1, .int (I d)), (2, .int (I k))] [] σ
  refine R_aload_n hB (j := 0) dX8_loudOf_0 rfl rfl ?_
  refine R_getr hB (61) fl_X8_34 dX8_loudOf_1 rfl rfl ?_
  refine R_iload_n hB (j := 1) dX8_loudOf_4 rfl rfl ?_
  refine R_iald hB rfl (by omega) dX8_loudOf_5 ?_
  have jn_44 : ∀ (b : Int), (b = sv 1 (σ 61 d)) → Run Θ Γ 44 [(0, .ref (Th.r Θ 1)), (1, .int (I d)), (2, .int (I k))] [.int (I b)] σ := by
    intro b hb
    have hv := sv1_in h2
    rw [← hb] at hv
    refine R_istore_n hB (L' := [_, _, _, _]) dX8_loudOf_44 rfl (Nat.le_of_ble_eq_true rfl) rfl ?_
    refine R_aload_n hB (j := 1) dX8_loudOf_45 rfl rfl ?_
    refine R_getr hB (60) fl_X8_31 dX8_loudOf_46 rfl rfl ?_
    refine R_iload_n hB (j := 2) dX8_loudOf_49 rfl rfl ?_
    refine R_iald hB rfl (by omega) dX8_loudOf_50 ?_
    refine R_aload_n hB (j := 1) dX8_loudOf_51 rfl rfl ?_
    refine R_getr hB (55) fl_X8_16 dX8_loudOf_52 rfl rfl ?_
    refine R_iload_n hB (j := 3) dX8_loudOf_55 rfl rfl ?_
    refine R_iald hB rfl (by omega) dX8_loudOf_56 ?_
    refine R_icmp_ge hB 76 (by omega) (by omega) dX8_loudOf_57 rfl (fun h57 => ?_) (fun h57 => ?_)
    · refine R_aload_n hB (j := 1) dX8_loudOf_76 rfl rfl ?_
      refine R_getr hB (60) fl_X8_31 dX8_loudOf_77 rfl rfl ?_
      refine R_iload_n hB (j := 2) dX8_loudOf_80 rfl rfl ?_
      refine R_iald hB rfl (by omega) dX8_loudOf_81 ?_
      refine R_aload_n hB (j := 1) dX8_loudOf_82 rfl rfl ?_
      refine R_getr hB (55) fl_X8_16 dX8_loudOf_83 rfl rfl ?_
      refine R_iload_n hB (j := 3) dX8_loudOf_86 rfl rfl ?_
      refine R_iald hB rfl (by omega) dX8_loudOf_87 ?_
      refine R_isub hB dX8_loudOf_88 ?_
      refine R_istore hB (L' := [_, _, _, _, _]) dX8_loudOf_89 (Nat.le_of_ble_eq_true rfl) rfl ?_
      refine R_iload_n hB (j := 1) dX8_loudOf_91 rfl rfl ?_
      refine R_iload hB (j := 0) dX8_loudOf_92 rfl ?_
      refine R_icmp_le hB 104 (by omega) (by omega) dX8_loudOf_94 rfl (fun h94 => ?_) (fun h94 => ?_)
      · refine R_iconst hB dX8_loudOf_104 ?_
        exact R_iret hB hE rfl dX8_loudOf_105 (⟨rfl, by unfold loudOf; rw [← hb]; split <;> omega⟩)
      · refine R_iload_n hB (j := 1) dX8_loudOf_97 rfl rfl ?_
        refine R_iload hB (j := 0) dX8_loudOf_98 rfl ?_
        refine R_isub hB dX8_loudOf_100 ?_
        refine R_goto hB 105 dX8_loudOf_101 rfl ?_
        exact R_iret hB hE rfl dX8_loudOf_105 (⟨rfl, by unfold loudOf; rw [← hb]; split <;> omega⟩)
    · refine R_aload_n hB (j := 1) dX8_loudOf_60 rfl rfl ?_
      refine R_getr hB (55) fl_X8_16 dX8_loudOf_61 rfl rfl ?_
      refine R_iload_n hB (j := 3) dX8_loudOf_64 rfl rfl ?_
      refine R_iald hB rfl (by omega) dX8_loudOf_65 ?_
      refine R_aload_n hB (j := 1) dX8_loudOf_66 rfl rfl ?_
      refine R_getr hB (60) fl_X8_31 dX8_loudOf_67 rfl rfl ?_
      refine R_iload_n hB (j := 2) dX8_loudOf_70 rfl rfl ?_
      refine R_iald hB rfl (by omega) dX8_loudOf_71 ?_
      refine R_isub hB dX8_loudOf_72 ?_
      refine R_goto hB 89 dX8_loudOf_73 rfl ?_
      refine R_istore hB (L' := [_, _, _, _, _]) dX8_loudOf_89 (Nat.le_of_ble_eq_true rfl) rfl ?_
      refine R_iload_n hB (j := 1) dX8_loudOf_91 rfl rfl ?_
      refine R_iload hB (j := 0) dX8_loudOf_92 rfl ?_
      refine R_icmp_le hB 104 (by omega) (by omega) dX8_loudOf_94 rfl (fun h94 => ?_) (fun h94 => ?_)
      · refine R_iconst hB dX8_loudOf_104 ?_
        exact R_iret hB hE rfl dX8_loudOf_105 (⟨rfl, by unfold loudOf; rw [← hb]; split <;> omega⟩)
      · refine R_iload_n hB (j := 1) dX8_loudOf_97 rfl rfl ?_
        refine R_iload hB (j := 0) dX8_loudOf_98 rfl ?_
        refine R_isub hB dX8_loudOf_100 ?_
        refine R_goto hB 105 dX8_loudOf_101 rfl ?_
        exact R_iret hB hE rfl dX8_loudOf_105 (⟨rfl, by unfold loudOf; rw [← hb]; split <;> omega⟩)
  refine R_if_ne hB 14 (by omega) dX8_loudOf_6 rfl (fun h6 => ?_) (fun h6 => ?_)
  · refine R_aload_n hB (j := 0) dX8_loudOf_14 rfl rfl ?_
    refine R_getr hB (61) fl_X8_34 dX8_loudOf_15 rfl rfl ?_
    refine R_iload_n hB (j := 1) dX8_loudOf_18 rfl rfl ?_
    refine R_iald hB rfl (by omega) dX8_loudOf_19 ?_
    refine R_iconst hB dX8_loudOf_20 ?_
    refine R_icmp_ne hB 28 (by omega) (by omega) dX8_loudOf_21 rfl (fun h21 => ?_) (fun h21 => ?_)
    · refine R_aload_n hB (j := 0) dX8_loudOf_28 rfl rfl ?_
      refine R_getr hB (61) fl_X8_34 dX8_loudOf_29 rfl rfl ?_
      refine R_iload_n hB (j := 1) dX8_loudOf_32 rfl rfl ?_
      refine R_iald hB rfl (by omega) dX8_loudOf_33 ?_
      refine R_iconst hB dX8_loudOf_34 ?_
      refine R_icmp_ne hB 43 (by omega) (by omega) dX8_loudOf_35 rfl (fun h35 => ?_) (fun h35 => ?_)
      · refine R_iconst hB dX8_loudOf_43 ?_
        exact R_sub [0, 1, 2] rfl (jn_44 _ (by
          have q : ∀ n : Nat, n < 4 → sv 1 (n : Int) = if n = 0 then 6 else if n = 1 then 4 else if n = 2 then 9 else 3 := by decide
          have q2 := q (σ 61 d).toNat (by omega)
          rw [show (((σ 61 d).toNat : Nat) : Int) = σ 61 d by omega] at q2
          rw [q2]
          (repeat split) <;> omega))
      · refine R_bipush hB dX8_loudOf_38 rfl ?_
        refine R_goto hB 44 dX8_loudOf_40 rfl ?_
        exact R_sub [0, 1, 2] rfl (jn_44 _ (by
          have q : ∀ n : Nat, n < 4 → sv 1 (n : Int) = if n = 0 then 6 else if n = 1 then 4 else if n = 2 then 9 else 3 := by decide
          have q2 := q (σ 61 d).toNat (by omega)
          rw [show (((σ 61 d).toNat : Nat) : Int) = σ 61 d by omega] at q2
          rw [q2]
          (repeat split) <;> omega))
    · refine R_iconst hB dX8_loudOf_24 ?_
      refine R_goto hB 44 dX8_loudOf_25 rfl ?_
      exact R_sub [0, 1, 2] rfl (jn_44 _ (by
        have q : ∀ n : Nat, n < 4 → sv 1 (n : Int) = if n = 0 then 6 else if n = 1 then 4 else if n = 2 then 9 else 3 := by decide
        have q2 := q (σ 61 d).toNat (by omega)
        rw [show (((σ 61 d).toNat : Nat) : Int) = σ 61 d by omega] at q2
        rw [q2]
        (repeat split) <;> omega))
  · refine R_bipush hB dX8_loudOf_9 rfl ?_
    refine R_goto hB 44 dX8_loudOf_11 rfl ?_
    exact R_sub [0, 1, 2] rfl (jn_44 _ (by
      have q : ∀ n : Nat, n < 4 → sv 1 (n : Int) = if n = 0 then 6 else if n = 1 then 4 else if n = 2 then 9 else 3 := by decide
      have q2 := q (σ 61 d).toNat (by omega)
      rw [show (((σ 61 d).toNat : Nat) : Int) = σ 61 d by omega] at q2
      rw [q2]
      (repeat split) <;> omega))
