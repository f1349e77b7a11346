theorem s_byteAt_0 {Θ : Th} {σ : Mem} (k : Int) (hk : 0 ≤ k ∧ k < 1000) (h : MtOK σ) : Spc Θ M_X8_byteAt 1 [.ref (Th.r Θ 1), .int (I 0), .int (I k)] σ (Pu σ (fun z => z = mbt σ 0 k)) := by
  refine Spc_of (by decide +kernel) (Nat.le_of_ble_eq_true rfl) (fun Γ hB hE => ?_)
  show Run Θ Γ 0 [(0, .ref (Th.r Θ 1)), (1, .int (I 0)), (2, .int (I k))] [] σ
  have h0 := h.1.1
  have h1 := h.1.2
  refine R_iload_n hB (j := 2) dX8_byteAt_0 rfl rfl ?_
  refine R_aload_n hB (j := 0) dX8_byteAt_1 rfl rfl ?_
  refine R_getr hB (53) fl_X8_7 dX8_byteAt_2 rfl rfl ?_
  refine R_iload_n hB (j := 1) dX8_byteAt_5 rfl rfl ?_
  refine R_iald hB rfl (by omega) dX8_byteAt_6 ?_
  refine R_icmp_ge hB 24 (by omega) (by omega) dX8_byteAt_7 rfl (fun h7 => ?_) (fun h7 => ?_)
  · refine R_iconst hB dX8_byteAt_24 ?_
    exact R_iret hB hE rfl dX8_byteAt_25 (⟨rfl, by unfold mbt mby; first | (rw [if_pos (show k < σ 53 ((0 : Nat) : Int) from h7)]; rfl) | (rw [if_neg (show ¬ k < σ 53 ((0 : Nat) : Int) from Int.not_lt.mpr h7)])⟩)
  · refine R_aload_n hB (j := 0) dX8_byteAt_10 rfl rfl ?_
    refine R_getr hB (54) fl_X8_13 dX8_byteAt_11 rfl rfl ?_
    refine R_bipush hB dX8_byteAt_14 rfl ?_
    refine R_iload_n hB (j := 1) dX8_byteAt_16 rfl rfl ?_
    refine R_imul hB dX8_byteAt_17 ?_
    refine R_iload_n hB (j := 2) dX8_byteAt_18 rfl rfl ?_
    refine R_iadd hB dX8_byteAt_19 ?_
    refine R_iald hB rfl (by omega) dX8_byteAt_20 ?_
    refine R_goto hB 25 dX8_byteAt_21 rfl ?_
    exact R_iret hB hE rfl dX8_byteAt_25 (⟨rfl, by unfold mbt mby; first | (rw [if_pos (show k < σ 53 ((0 : Nat) : Int) from h7)]; rfl) | (rw [if_neg (show ¬ k < σ 53 ((0 : Nat) : Int) from Int.not_lt.mpr h7)])⟩)

theorem s_figureAt_0 {Θ : Th} {σ : Mem} (k hi : Int) (hk : 0 ≤ k ∧ k < 1000) (hh : 0 ≤ hi ∧ hi ≤ 9) (h : MtOK σ) : Spc Θ M_X8_figureAt 1 [.ref (Th.r Θ 1), .int (I 0), .int (I k), .int (I hi)] σ (Pu σ (fun z => z = fgz σ 0 k hi)) := by
  refine Spc_of (by decide +kernel) (Nat.le_of_ble_eq_true rfl) (fun Γ hB hE => ?_)
  show Run Θ Γ 0 [(0, .ref (Th.r Θ 1)), (1, .int (I 0)), (2, .int (I k)), (3, .int (I hi))] [] σ
  refine R_aload_n hB (j := 0) dX8_figureAt_0 rfl rfl ?_
  refine R_iload_n hB (j := 1) dX8_figureAt_1 rfl rfl ?_
  refine R_iload_n hB (j := 2) dX8_figureAt_2 rfl rfl ?_
  refine P_cV1 hB (s_byteAt_0 k hk h) mv_X8_106 rfl rfl (by decide) dX8_figureAt_3 rfl rfl (Nat.le_of_ble_eq_true rfl) (fun z3 h3 => ?_)
  have hb := mbt_in h (t := 0) (by decide) hk.1
  rw [← h3] at hb
  refine R_bipush hB dX8_figureAt_6 rfl ?_
  refine R_isub hB dX8_figureAt_8 ?_
  refine R_istore hB (L' := [_, _, _, _, _]) dX8_figureAt_9 (Nat.le_of_ble_eq_true rfl) rfl ?_
  refine R_iload hB (j := 0) dX8_figureAt_11 rfl ?_
  refine R_iconst hB dX8_figureAt_13 ?_
  refine R_iload_n hB (j := 4) dX8_figureAt_14 rfl rfl ?_
  refine P_cS1 hB (s_in _ _ _ (by omega) (by omega) (by omega)) ms_X8_98 (by decide) dX8_figureAt_15 rfl rfl (Nat.le_of_ble_eq_true rfl) (fun z15 h15 => ?_)
  refine R_if_eq hB 26 (by rw [h15]; split <;> omega) dX8_figureAt_18 rfl (fun h18 => ?_) (fun h18 => ?_)
  · refine R_iconst hB dX8_figureAt_26 ?_
    exact R_iret hB hE rfl dX8_figureAt_27 (⟨rfl, by unfold fgz; rw [← h3]; split at h15 <;> (first | (exfalso; omega) | rw [if_pos (by omega)] | rw [if_neg (by omega)])⟩)
  · refine R_iload hB (j := 0) dX8_figureAt_21 rfl ?_
    refine R_goto hB 27 dX8_figureAt_23 rfl ?_
    exact R_iret hB hE rfl dX8_figureAt_27 (⟨rfl, by unfold fgz; rw [← h3]; split at h15 <;> (first | (exfalso; omega) | rw [if_pos (by omega)] | rw [if_neg (by omega)])⟩)

theorem s_byteAt_1 {Θ : Th} {σ : Mem} (k : Int) (hk : 0 ≤ k ∧ k < 1000) (h : MtOK σ) : Spc Θ M_X8_byteAt 1 [.ref (Th.r Θ 1), .int (I 1), .int (I k)] σ (Pu σ (fun z => z = mbt σ 1 k)) := by
  refine Spc_of (by decide +kernel) (Nat.le_of_ble_eq_true rfl) (fun Γ hB hE => ?_)
  show Run Θ Γ 0 [(0, .ref (Th.r Θ 1)), (1, .int (I 1)), (2, .int (I k))] [] σ
  have h0 := h.1.1
  have h1 := h.1.2
  refine R_iload_n hB (j := 2) dX8_byteAt_0 rfl rfl ?_
  refine R_aload_n hB (j := 0) dX8_byteAt_1 rfl rfl ?_
  refine R_getr hB (53) fl_X8_7 dX8_byteAt_2 rfl rfl ?_
  refine R_iload_n hB (j := 1) dX8_byteAt_5 rfl rfl ?_
  refine R_iald hB rfl (by omega) dX8_byteAt_6 ?_
  refine R_icmp_ge hB 24 (by omega) (by omega) dX8_byteAt_7 rfl (fun h7 => ?_) (fun h7 => ?_)
  · refine R_iconst hB dX8_byteAt_24 ?_
    exact R_iret hB hE rfl dX8_byteAt_25 (⟨rfl, by unfold mbt mby; first | (rw [if_pos (show k < σ 53 ((1 : Nat) : Int) from h7)]; rfl) | (rw [if_neg (show ¬ k < σ 53 ((1 : Nat) : Int) from Int.not_lt.mpr h7)])⟩)
  · refine R_aload_n hB (j := 0) dX8_byteAt_10 rfl rfl ?_
    refine R_getr hB (54) fl_X8_13 dX8_byteAt_11 rfl rfl ?_
    refine R_bipush hB dX8_byteAt_14 rfl ?_
    refine R_iload_n hB (j := 1) dX8_byteAt_16 rfl rfl ?_
    refine R_imul hB dX8_byteAt_17 ?_
    refine R_iload_n hB (j := 2) dX8_byteAt_18 rfl rfl ?_
    refine R_iadd hB dX8_byteAt_19 ?_
    refine R_iald hB rfl (by omega) dX8_byteAt_20 ?_
    refine R_goto hB 25 dX8_byteAt_21 rfl ?_
    exact R_iret hB hE rfl dX8_byteAt_25 (⟨rfl, by unfold mbt mby; first | (rw [if_pos (show k < σ 53 ((1 : Nat) : Int) from h7)]; rfl) | (rw [if_neg (show ¬ k < σ 53 ((1 : Nat) : Int) from Int.not_lt.mpr h7)])⟩)

theorem s_figureAt_1 {Θ : Th} {σ : Mem} (k hi : Int) (hk : 0 ≤ k ∧ k < 1000) (hh : 0 ≤ hi ∧ hi ≤ 9) (h : MtOK σ) : Spc Θ M_X8_figureAt 1 [.ref (Th.r Θ 1), .int (I 1), .int (I k), .int (I hi)] σ (Pu σ (fun z => z = fgz σ 1 k hi)) := by
  refine Spc_of (by decide +kernel) (Nat.le_of_ble_eq_true rfl) (fun Γ hB hE => ?_)
  show Run Θ Γ 0 [(0, .ref (Th.r Θ 1)), (1, .int (I 1)), (2, .int (I k)), (3, .int (I hi))] [] σ
  refine R_aload_n hB (j := 0) dX8_figureAt_0 rfl rfl ?_
  refine R_iload_n hB (j := 1) dX8_figureAt_1 rfl rfl ?_
  refine R_iload_n hB (j := 2) dX8_figureAt_2 rfl rfl ?_
  refine P_cV1 hB (s_byteAt_1 k hk h) mv_X8_106 rfl rfl (by decide) dX8_figureAt_3 rfl rfl (Nat.le_of_ble_eq_true rfl) (fun z3 h3 => ?_)
  have hb := mbt_in h (t := 1) (by decide) hk.1
  rw [← h3] at hb
  refine R_bipush hB dX8_figureAt_6 rfl ?_
  refine R_isub hB dX8_figureAt_8 ?_
  refine R_istore hB (L' := [_, _, _, _, _]) dX8_figureAt_9 (Nat.le_of_ble_eq_true rfl) rfl ?_
  refine R_iload hB (j := 0) dX8_figureAt_11 rfl ?_
  refine R_iconst hB dX8_figureAt_13 ?_
  refine R_iload_n hB (j := 4) dX8_figureAt_14 rfl rfl ?_
  refine P_cS1 hB (s_in _ _ _ (by omega) (by omega) (by omega)) ms_X8_98 (by decide) dX8_figureAt_15 rfl rfl (Nat.le_of_ble_eq_true rfl) (fun z15 h15 => ?_)
  refine R_if_eq hB 26 (by rw [h15]; split <;> omega) dX8_figureAt_18 rfl (fun h18 => ?_) (fun h18 => ?_)
  · refine R_iconst hB dX8_figureAt_26 ?_
    exact R_iret hB hE rfl dX8_figureAt_27 (⟨rfl, by unfold fgz; rw [← h3]; split at h15 <;> (first | (exfalso; omega) | rw [if_pos (by omega)] | rw [if_neg (by omega)])⟩)
  · refine R_iload hB (j := 0) dX8_figureAt_21 rfl ?_
    refine R_goto hB 27 dX8_figureAt_23 rfl ?_
    exact R_iret hB hE rfl dX8_figureAt_27 (⟨rfl, by unfold fgz; rw [← h3]; split at h15 <;> (first | (exfalso; omega) | rw [if_pos (by omega)] | rw [if_neg (by omega)])⟩)

theorem tb0 : tbl 0 0 = 121 ∧ tbl 0 1 = 111 ∧ tbl 0 2 = 119 ∧ tbl 0 3 = 105 := ⟨rfl, rfl, rfl, rfl⟩
theorem tb1 : tbl 1 0 = 107 ∧ tbl 1 1 = 118 ∧ tbl 1 2 = 102 ∧ tbl 1 3 = 100 := ⟨rfl, rfl, rfl, rfl⟩
theorem fgz_in {σ : Mem} {t : Nat} {k hi : Int} (h : 0 ≤ hi ∧ hi ≤ 9) : -1 ≤ fgz σ t k hi ∧ fgz σ t k hi ≤ 9 := by
  unfold fgz; split <;> omega
/-- what four good bytes tell -/
theorem GdQ_of {σ : Mem} {t : Nat} (ht : t < 2) {a : Int} (ha : a % 5 = 0) {x y z w h0 h1 h2 : Int} (e0 : gr t 0 = h0) (e1 : gr t 1 = h1) (e2 : gr t 2 = h2) (hx : x = fgz σ t a h0) (hy : y = fgz σ t (a + 1) h1) (hz : z = fgz σ t (a + 2) h2) (hw : w = ixT t (mbt σ t (a + 3))) :
    (x = -1 → GdQ σ t a 0) ∧ (x ≠ -1 → y = -1 → GdQ σ t a 1) ∧ (x ≠ -1 → y ≠ -1 → z = -1 → GdQ σ t a 2) ∧ (x ≠ -1 → y ≠ -1 → z ≠ -1 → w = -1 → GdQ σ t a 3) ∧ (x ≠ -1 → y ≠ -1 → z ≠ -1 → w ≠ -1 → GdQ σ t a 4 ∧ x = mby σ t a - 48 ∧ y = mby σ t (a + 1) - 48 ∧ z = mby σ t (a + 2) - 48 ∧ w = ixT t (mby σ t (a + 3))) := by
  have f0 := fgz_fit (σ := σ) (t := t) (k := a) (hi := h0) (by omega) (by rw [ha]; exact e0)
  have f1 := fgz_fit (σ := σ) (t := t) (k := a + 1) (hi := h1) (by omega) (by rw [show (a + 1) % 5 = 1 by omega]; exact e1)
  have f2 := fgz_fit (σ := σ) (t := t) (k := a + 2) (hi := h2) (by omega) (by rw [show (a + 2) % 5 = 2 by omega]; exact e2)
  have f3 := ix_fit (σ := σ) ht (k := a + 3) (by omega)
  rw [← hx] at f0
  rw [← hy] at f1
  rw [← hz] at f2
  rw [← hw] at f3
  have at0 : ∀ P : Int → Prop, P a → P (a + 0) := fun P h => by rw [Int.add_zero]; exact h
  refine ⟨fun q0 => ⟨by omega, fun j a1 a2 => by omega, fun _ w => ?_⟩, fun q0 q1 => ⟨by omega, fun j a1 a2 => ?_, fun _ w => ?_⟩, fun q0 q1 q2 => ⟨by omega, fun j a1 a2 => ?_, fun _ w => ?_⟩, fun q0 q1 q2 q3 => ⟨by omega, fun j a1 a2 => ?_, fun _ w => ?_⟩, fun q0 q1 q2 q3 => ⟨⟨by omega, fun j a1 a2 => ?_, fun c => by omega⟩, f0.2 q0, f1.2 q1, f2.2 q2, f3.2 q3⟩⟩
  · rw [Int.add_zero] at w; exact (f0.1.mpr w) q0
  · rw [show j = 0 by omega, Int.add_zero]; exact f0.1.mp q0
  · exact (f1.1.mpr w) q1
  · rcases (show j = 0 ∨ j = 1 by omega) with c | c
    · rw [c, Int.add_zero]; exact f0.1.mp q0
    · rw [c]; exact f1.1.mp q1
  · exact (f2.1.mpr w) q2
  · rcases (show j = 0 ∨ j = 1 ∨ j = 2 by omega) with c | c | c
    · rw [c, Int.add_zero]; exact f0.1.mp q0
    · rw [c]; exact f1.1.mp q1
    · rw [c]; exact f2.1.mp q2
  · exact (f3.1.mpr w) q3
  · rcases (show j = 0 ∨ j = 1 ∨ j = 2 ∨ j = 3 by omega) with c | c | c | c
    · rw [c, Int.add_zero]; exact f0.1.mp q0
    · rw [c]; exact f1.1.mp q1
    · rw [c]; exact f2.1.mp q2
    · rw [c]; exact f3.1.mp q3

theorem s_readsSleeper {Θ : Th} {σ : Mem} (n a : Int) (hn : 0 ≤ n ∧ n < 9) (ha : 0 ≤ a ∧ a ≤ 40) (ha5 : a % 5 = 0) (h : MtOK σ) : Spc Θ M_X8_readsSleeper 1 [.ref (Th.r Θ 1), .int (I n), .int (I a)] σ (fun r σ' => GdQ σ 0 a r ∧ ((r < 4 ∧ σ' = σ) ∨ (r = 4 ∧ σ' = up (up (up (up σ 55 n (mby σ 0 a - 48)) 56 n (mby σ 0 (a + 1) - 48)) 57 n (mby σ 0 (a + 2) - 48)) 58 n (ixT 0 (mby σ 0 (a + 3)))))) := by
  refine Spc_of (by decide +kernel) (Nat.le_of_ble_eq_true rfl) (fun Γ hB hE => ?_)
  show Run Θ Γ 0 [(0, .ref (Th.r Θ 1)), (1, .int (I n)), (2, .int (I a))] [] σ
  obtain ⟨t0, t1, t2, t3⟩ := tb0
  refine R_aload_n hB (j := 0) dX8_readsSleeper_0 rfl rfl ?_
  refine R_iconst hB dX8_readsSleeper_1 ?_
  refine R_iload_n hB (j := 2) dX8_readsSleeper_2 rfl rfl ?_
  refine R_bipush hB dX8_readsSleeper_3 rfl ?_
  refine P_cV1 hB (s_figureAt_0 a 9 (by omega) (by omega) h) mv_X8_110 rfl rfl (by decide) dX8_readsSleeper_5 rfl rfl (Nat.le_of_ble_eq_true rfl) (fun z5 h5 => ?_)
  have b5 := fgz_in (σ := σ) (t := 0) (k := a) (hi := 9) (by omega)
  rw [← h5] at b5
  refine R_istore_n hB (L' := [_, _, _, _]) dX8_readsSleeper_8 rfl (Nat.le_of_ble_eq_true rfl) rfl ?_
  refine R_aload_n hB (j := 1) dX8_readsSleeper_9 rfl rfl ?_
  refine R_iconst hB dX8_readsSleeper_10 ?_
  refine R_iload_n hB (j := 3) dX8_readsSleeper_11 rfl rfl ?_
  refine R_iconst hB dX8_readsSleeper_12 ?_
  refine R_iadd hB dX8_readsSleeper_13 ?_
  refine R_bipush hB dX8_readsSleeper_14 rfl ?_
  refine P_cV1 hB (s_figureAt_0 (a + 1) 9 (by omega) (by omega) h) mv_X8_110 rfl rfl (by decide) dX8_readsSleeper_16 rfl rfl (Nat.le_of_ble_eq_true rfl) (fun z16 h16 => ?_)
  have b16 := fgz_in (σ := σ) (t := 0) (k := a + 1) (hi := 9) (by omega)
  rw [← h16] at b16
  refine R_istore hB (L' := [_, _, _, _, _]) dX8_readsSleeper_19 (Nat.le_of_ble_eq_true rfl) rfl ?_
  refine R_aload_n hB (j := 2) dX8_readsSleeper_21 rfl rfl ?_
  refine R_iconst hB dX8_readsSleeper_22 ?_
  refine R_iload_n hB (j := 4) dX8_readsSleeper_23 rfl rfl ?_
  refine R_iconst hB dX8_readsSleeper_24 ?_
  refine R_iadd hB dX8_readsSleeper_25 ?_
  refine R_iconst hB dX8_readsSleeper_26 ?_
  refine P_cV1 hB (s_figureAt_0 (a + 2) 3 (by omega) (by omega) h) mv_X8_110 rfl rfl (by decide) dX8_readsSleeper_27 rfl rfl (Nat.le_of_ble_eq_true rfl) (fun z27 h27 => ?_)
  have b27 := fgz_in (σ := σ) (t := 0) (k := a + 2) (hi := 3) (by omega)
  rw [← h27] at b27
  refine R_istore hB (L' := [_, _, _, _, _, _]) dX8_readsSleeper_30 (Nat.le_of_ble_eq_true rfl) rfl ?_
  refine R_aload_n hB (j := 3) dX8_readsSleeper_32 rfl rfl ?_
  refine R_iconst hB dX8_readsSleeper_33 ?_
  refine R_iload_n hB (j := 5) dX8_readsSleeper_34 rfl rfl ?_
  refine R_iconst hB dX8_readsSleeper_35 ?_
  refine R_iadd hB dX8_readsSleeper_36 ?_
  refine P_cV1 hB (s_byteAt_0 (a + 3) (by omega) h) mv_X8_106 rfl rfl (by decide) dX8_readsSleeper_37 rfl rfl (Nat.le_of_ble_eq_true rfl) (fun z37 h37 => ?_)
  have b37 := mbt_in h (t := 0) (by decide) (k := a + 3) (by omega)
  rw [← h37] at b37
  refine R_istore hB (L' := [_, _, _, _, _, _, _]) dX8_readsSleeper_40 (Nat.le_of_ble_eq_true rfl) rfl ?_
  have jn_87 : ∀ (kd : Int), (kd = ixT 0 z37) → Run Θ Γ 87 [(0, .ref (Th.r Θ 1)), (1, .int (I n)), (2, .int (I a)), (3, .int (I z5)), (4, .int (I z16)), (5, .int (I z27)), (6, .int (I z37))] [.int (I kd)] σ := by
    intro kd hkd
    have hkb := ixT_in 0 z37
    rw [← hkd] at hkb
    rw [h37] at hkd
    have G := GdQ_of (σ := σ) (t := 0) (by decide) ha5 (h0 := 9) (h1 := 9) (h2 := 3) rfl rfl rfl h5 h16 h27 hkd
    refine R_istore hB (L' := [_, _, _, _, _, _, _, _]) dX8_readsSleeper_87 (Nat.le_of_ble_eq_true rfl) rfl ?_
    refine R_iload_n hB (j := 4) dX8_readsSleeper_89 rfl rfl ?_
    refine R_iconst hB dX8_readsSleeper_90 ?_
    refine R_icmp_ne hB 96 (by omega) (by omega) dX8_readsSleeper_91 rfl (fun h91 => ?_) (fun h91 => ?_)
    · refine R_iload hB (j := 5) dX8_readsSleeper_96 rfl ?_
      refine R_iconst hB dX8_readsSleeper_98 ?_
      refine R_icmp_ne hB 104 (by omega) (by omega) dX8_readsSleeper_99 rfl (fun h99 => ?_) (fun h99 => ?_)
      · refine R_iload hB (j := 6) dX8_readsSleeper_104 rfl ?_
        refine R_iconst hB dX8_readsSleeper_106 ?_
        refine R_icmp_ne hB 112 (by omega) (by omega) dX8_readsSleeper_107 rfl (fun h107 => ?_) (fun h107 => ?_)
        · refine R_iload hB (j := 0) dX8_readsSleeper_112 rfl ?_
          refine R_iconst hB dX8_readsSleeper_114 ?_
          refine R_icmp_ne hB 120 (by omega) (by omega) dX8_readsSleeper_115 rfl (fun h115 => ?_) (fun h115 => ?_)
          · refine R_aload_n hB (j := 1) dX8_readsSleeper_120 rfl rfl ?_
            refine R_getr hB (55) fl_X8_16 dX8_readsSleeper_121 rfl rfl ?_
            refine R_iload_n hB (j := 2) dX8_readsSleeper_124 rfl rfl ?_
            refine R_iload_n hB (j := 4) dX8_readsSleeper_125 rfl rfl ?_
            refine N_iast hB rfl (by omega) (by omega) dX8_readsSleeper_126 (fun σ1 e1 => ?_)
            refine R_aload_n hB (j := 1) dX8_readsSleeper_127 rfl rfl ?_
            refine R_getr hB (56) fl_X8_19 dX8_readsSleeper_128 rfl rfl ?_
            refine R_iload_n hB (j := 2) dX8_readsSleeper_131 rfl rfl ?_
            refine R_iload hB (j := 5) dX8_readsSleeper_132 rfl ?_
            refine N_iast hB rfl (by omega) (by omega) dX8_readsSleeper_134 (fun σ2 e2 => ?_)
            refine R_aload_n hB (j := 1) dX8_readsSleeper_135 rfl rfl ?_
            refine R_getr hB (57) fl_X8_22 dX8_readsSleeper_136 rfl rfl ?_
            refine R_iload_n hB (j := 2) dX8_readsSleeper_139 rfl rfl ?_
            refine R_iload hB (j := 6) dX8_readsSleeper_140 rfl ?_
            refine N_iast hB rfl (by omega) (by omega) dX8_readsSleeper_142 (fun σ3 e3 => ?_)
            refine R_aload_n hB (j := 1) dX8_readsSleeper_143 rfl rfl ?_
            refine R_getr hB (58) fl_X8_25 dX8_readsSleeper_144 rfl rfl ?_
            refine R_iload_n hB (j := 2) dX8_readsSleeper_147 rfl rfl ?_
            refine R_iload hB (j := 0) dX8_readsSleeper_148 rfl ?_
            refine N_iast hB rfl (by omega) (by omega) dX8_readsSleeper_150 (fun σ4 e4 => ?_)
            refine R_iconst hB dX8_readsSleeper_151 ?_
            exact R_iret hB hE rfl dX8_readsSleeper_152 (by
              obtain ⟨g, x1, x2, x3, x4⟩ := G.2.2.2.2 h91 h99 h107 h115
              refine ⟨g, Or.inr ⟨rfl, ?_⟩⟩
              rw [e4, e3, e2, e1, ← x1, ← x2, ← x3, ← x4])
          · refine R_iconst hB dX8_readsSleeper_118 ?_
            exact R_iret hB hE rfl dX8_readsSleeper_119 (⟨G.2.2.2.1 h91 h99 h107 h115, Or.inl ⟨by omega, rfl⟩⟩)
        · refine R_iconst hB dX8_readsSleeper_110 ?_
          exact R_iret hB hE rfl dX8_readsSleeper_111 (⟨G.2.2.1 h91 h99 h107, Or.inl ⟨by omega, rfl⟩⟩)
      · refine R_iconst hB dX8_readsSleeper_102 ?_
        exact R_iret hB hE rfl dX8_readsSleeper_103 (⟨G.2.1 h91 h99, Or.inl ⟨by omega, rfl⟩⟩)
    · refine R_iconst hB dX8_readsSleeper_94 ?_
      exact R_iret hB hE rfl dX8_readsSleeper_95 (⟨G.1 h91, Or.inl ⟨by omega, rfl⟩⟩)
  refine R_iload hB (j := 0) dX8_readsSleeper_42 rfl ?_
  refine R_bipush hB dX8_readsSleeper_44 rfl ?_
  refine R_icmp_ne hB 53 (by omega) (by omega) dX8_readsSleeper_46 rfl (fun h46 => ?_) (fun h46 => ?_)
  · refine R_iload hB (j := 0) dX8_readsSleeper_53 rfl ?_
    refine R_bipush hB dX8_readsSleeper_55 rfl ?_
    refine R_icmp_ne hB 64 (by omega) (by omega) dX8_readsSleeper_57 rfl (fun h57 => ?_) (fun h57 => ?_)
    · refine R_iload hB (j := 0) dX8_readsSleeper_64 rfl ?_
      refine R_bipush hB dX8_readsSleeper_66 rfl ?_
      refine R_icmp_ne hB 75 (by omega) (by omega) dX8_readsSleeper_68 rfl (fun h68 => ?_) (fun h68 => ?_)
      · refine R_iload hB (j := 0) dX8_readsSleeper_75 rfl ?_
        refine R_bipush hB dX8_readsSleeper_77 rfl ?_
        refine R_icmp_ne hB 86 (by omega) (by omega) dX8_readsSleeper_79 rfl (fun h79 => ?_) (fun h79 => ?_)
        · refine R_iconst hB dX8_readsSleeper_86 ?_
          exact R_sub [4, 5, 6, 3, 2, 1, 0] rfl (jn_87 _ (by unfold ixT; rw [t0, t1, t2, t3]; (repeat split) <;> omega))
        · refine R_iconst hB dX8_readsSleeper_82 ?_
          refine R_goto hB 87 dX8_readsSleeper_83 rfl ?_
          exact R_sub [4, 5, 6, 3, 2, 1, 0] rfl (jn_87 _ (by unfold ixT; rw [t0, t1, t2, t3]; (repeat split) <;> omega))
      · refine R_iconst hB dX8_readsSleeper_71 ?_
        refine R_goto hB 87 dX8_readsSleeper_72 rfl ?_
        exact R_sub [4, 5, 6, 3, 2, 1, 0] rfl (jn_87 _ (by unfold ixT; rw [t0, t1, t2, t3]; (repeat split) <;> omega))
    · refine R_iconst hB dX8_readsSleeper_60 ?_
      refine R_goto hB 87 dX8_readsSleeper_61 rfl ?_
      exact R_sub [4, 5, 6, 3, 2, 1, 0] rfl (jn_87 _ (by unfold ixT; rw [t0, t1, t2, t3]; (repeat split) <;> omega))
  · refine R_iconst hB dX8_readsSleeper_49 ?_
    refine R_goto hB 87 dX8_readsSleeper_50 rfl ?_
    exact R_sub [4, 5, 6, 3, 2, 1, 0] rfl (jn_87 _ (by unfold ixT; rw [t0, t1, t2, t3]; (repeat split) <;> omega))
