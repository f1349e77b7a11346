theorem TxOK.of {σ σ' : Mem} (h : TxOK σ) (h1 : 0 ≤ σ' 16 3 ∧ σ' 16 3 ≤ 39) (h2 : 0 ≤ σ' 17 3 ∧ σ' 17 3 ≤ 39) (h3 : σ' 29 = σ 29) (h4 : σ' 30 = σ 30) (h5 : σ' 31 = σ 31) (h6 : σ' 32 = σ 32) : TxOK σ' := by
  rw [TxOK, h3, h4, h5, h6]
  exact ⟨⟨h1, h2⟩, h.2.1, h.2.2⟩
/-- what holds if all cells but a text's, and what is made of it, stay -/
theorem InvC.tx0 {σ σ' : Mem} (h : InvC σ) (hx : TxOK σ') (hs : SlOK σ') (r : ∀ i, i ∉ [0, 8, 9, 10, 11, 12, 13, 14, 15, 16, 29] → σ' i = σ i) (h7 : σ' 0 7 = σ 0 7) : InvC σ' := by
  obtain ⟨h1, -, ⟨g, b1, b2, b3, b4⟩, h4, h5, h6, h8⟩ := h
  refine ⟨hx, hs, ⟨g, ?_, ?_, ?_, ?_⟩, ?_, ?_, ?_, by rw [h7]; exact h8⟩
  · rw [r 30 (by decide), r 17 (by decide)]; exact b1
  · rw [r 2 (by decide), r 17 (by decide)]; exact b2
  · rw [r 33 (by decide), r 34 (by decide), r 35 (by decide), r 36 (by decide), r 2 (by decide)]; exact b3
  · intro d q1 q2
    rw [r 2 (by decide)] at q2
    rw [r 33 (by decide), r 34 (by decide), r 35 (by decide), r 30 (by decide)]; exact b4 d q1 q2
  · rw [r 25 (by decide)]; exact h4
  · rw [TlOK, r 4 (by decide), r 41 (by decide), r 42 (by decide), r 43 (by decide)]; exact h5
  · intro s hs
    rw [r (18 + s) (by simp; omega)]; exact h6 s hs
theorem InvC.tx1 {σ σ' : Mem} (h : InvC σ) (hx : TxOK σ') (hd : DdOK σ') (r : ∀ i, i ∉ [2, 33, 34, 35, 36, 17, 30] → σ' i = σ i) : InvC σ' := by
  have hns := h.ns
  obtain ⟨h1, ⟨f, a1, a2, a3⟩, -, h4, h5, h6, h8⟩ := h
  refine ⟨hx, ⟨f, ?_, ?_, ?_⟩, hd, ?_, ?_, ?_, by rw [r 0 (by decide)]; exact h8⟩
  · rw [r 29 (by decide), r 16 (by decide)]; exact a1
  · rw [r 0 (by decide), r 16 (by decide)]; exact a2
  · intro s hs
    rw [r 0 (by decide)] at hs
    rw [r (8 + s) (by simp; omega), r 29 (by decide)]; exact a3 s hs
  · rw [r 25 (by decide)]; exact h4
  · rw [TlOK, r 4 (by decide), r 41 (by decide), r 42 (by decide), r 43 (by decide)]; exact h5
  · intro s hs
    rw [r (18 + s) (by simp; omega)]; exact h6 s hs

theorem s_resize_0 {Θ : Th} {σ : Mem} (n : Int) (hn : 0 ≤ n ∧ n ≤ 39) (hx : TxOK σ) : Spc Θ M_X7_resize 1 [.ref (Th.r Θ 0), .int (I 0), .int (I n)] σ (fun r σ' => r = n ∧ Same [0, 8, 9, 10, 11, 12, 13, 14, 15, 16] σ σ' ∧ (∀ k, k ≠ 2 → σ' 0 k = σ 0 k) ∧ (∀ k, k ≠ 3 → σ' 16 k = σ 16 k) ∧ σ' 16 3 = n ∧ TxOK σ' ∧ SlOK σ') := by
  refine Spc_of (by decide +kernel) (Nat.le_of_ble_eq_true rfl) (fun Γ hB hE => ?_)
  show Run Θ Γ 0 [(0, .ref (Th.r Θ 0)), (1, .int (I 0)), (2, .int (I n))] [] σ
  refine R_aload_n hB (j := 0) dX7_resize_0 rfl rfl ?_
  refine R_getr hB (22) fl_X7_9 dX7_resize_1 rfl rfl ?_
  refine R_iload_n hB (j := 1) dX7_resize_4 rfl rfl ?_
  refine R_aald hB (16) rfl (by decide) (by omega) rfl dX7_resize_5 ?_
  refine R_iload_n hB (j := 2) dX7_resize_6 rfl rfl ?_
  refine N_puti hB fp_X7_93 dX7_resize_7 rfl (by omega) (fun σ1 e1 => ?_)
  have hx1 : TxOK σ1 := hx.of (by rw [e1, up_s]; exact hn) (by rw [e1, up_row (by decide)]; exact hx.1.2) (by rw [e1]; exact up_row (by decide)) (by rw [e1]; exact up_row (by decide)) (by rw [e1]; exact up_row (by decide)) (by rw [e1]; exact up_row (by decide))
  refine R_iload_n hB (j := 1) dX7_resize_10 rfl rfl ?_
  refine R_if_ne hB 27 (by omega) dX7_resize_11 rfl (fun h11 => ?_) (fun h11 => ?_)
  · exfalso; omega
  · refine R_aload_n hB (j := 0) dX7_resize_14 rfl rfl ?_
    refine R_aload_n hB (j := 0) dX7_resize_15 rfl rfl ?_
    refine R_getr hB (22) fl_X7_9 dX7_resize_16 rfl rfl ?_
    refine R_iload_n hB (j := 1) dX7_resize_19 rfl rfl ?_
    refine R_aald hB (16) rfl (by decide) (by omega) rfl dX7_resize_20 ?_
    refine R_cV0 hB (s_makeBeds hx1) mv_X7_108 rfl rfl (by decide) dX7_resize_21 rfl rfl (Nat.le_of_ble_eq_true rfl) (fun σ2 h21 => ?_)
    obtain ⟨a1, a2, a3⟩ := h21
    refine R_goto hB 37 dX7_resize_24 rfl ?_
    refine R_iload_n hB (j := 2) dX7_resize_37 rfl rfl ?_
    exact R_iret hB hE rfl dX7_resize_38 (by
      have c16 : σ2 16 = σ1 16 := a1 16 (by decide)
      refine ⟨rfl, fun i hi => ?_, fun k hk => ?_, fun k hk => ?_, ?_, ?_, a3⟩
      · simp only [List.mem_cons, List.not_mem_nil, or_false, not_or] at hi
        rw [a1 i (by simp [hi]), e1, up_row (by omega)]
      · rw [a2 k hk, e1, up_row (by decide)]
      · rw [c16, e1, up_n (fun q => hk q.2)]
      · rw [c16, e1, up_s]
      · exact hx1.of (by rw [c16]; exact hx1.1.1) (by rw [a1 17 (by decide)]; exact hx1.1.2) (a1 29 (by decide)) (a1 30 (by decide)) (a1 31 (by decide)) (a1 32 (by decide)))

theorem s_resize_1 {Θ : Th} {σ : Mem} (n : Int) (hn : 0 ≤ n ∧ n ≤ 39) (hx : TxOK σ) : Spc Θ M_X7_resize 1 [.ref (Th.r Θ 0), .int (I 1), .int (I n)] σ (fun r σ' => r = n ∧ Same [2, 33, 34, 35, 36, 17] σ σ' ∧ (∀ k, k ≠ 3 → σ' 17 k = σ 17 k) ∧ σ' 17 3 = n ∧ TxOK σ' ∧ DdOK σ') := by
  refine Spc_of (by decide +kernel) (Nat.le_of_ble_eq_true rfl) (fun Γ hB hE => ?_)
  show Run Θ Γ 0 [(0, .ref (Th.r Θ 0)), (1, .int (I 1)), (2, .int (I n))] [] σ
  refine R_aload_n hB (j := 0) dX7_resize_0 rfl rfl ?_
  refine R_getr hB (22) fl_X7_9 dX7_resize_1 rfl rfl ?_
  refine R_iload_n hB (j := 1) dX7_resize_4 rfl rfl ?_
  refine R_aald hB (17) rfl (by decide) (by omega) rfl dX7_resize_5 ?_
  refine R_iload_n hB (j := 2) dX7_resize_6 rfl rfl ?_
  refine N_puti hB fp_X7_93 dX7_resize_7 rfl (by omega) (fun σ1 e1 => ?_)
  have hx1 : TxOK σ1 := hx.of (by rw [e1, up_row (by decide)]; exact hx.1.1) (by rw [e1, up_s]; exact hn) (by rw [e1]; exact up_row (by decide)) (by rw [e1]; exact up_row (by decide)) (by rw [e1]; exact up_row (by decide)) (by rw [e1]; exact up_row (by decide))
  refine R_iload_n hB (j := 1) dX7_resize_10 rfl rfl ?_
  refine R_if_ne hB 27 (by omega) dX7_resize_11 rfl (fun h11 => ?_) (fun h11 => ?_)
  · refine R_aload_n hB (j := 0) dX7_resize_27 rfl rfl ?_
    refine R_aload_n hB (j := 0) dX7_resize_28 rfl rfl ?_
    refine R_getr hB (22) fl_X7_9 dX7_resize_29 rfl rfl ?_
    refine R_iload_n hB (j := 1) dX7_resize_32 rfl rfl ?_
    refine R_aald hB (17) rfl (by decide) (by omega) rfl dX7_resize_33 ?_
    refine R_cV0 hB (s_tellDeeds hx1) mv_X7_112 rfl rfl (by decide) dX7_resize_34 rfl rfl (Nat.le_of_ble_eq_true rfl) (fun σ2 h34 => ?_)
    obtain ⟨a1, a3⟩ := h34
    refine R_iload_n hB (j := 2) dX7_resize_37 rfl rfl ?_
    exact R_iret hB hE rfl dX7_resize_38 (by
      have c17 : σ2 17 = σ1 17 := a1 17 (by decide)
      refine ⟨rfl, fun i hi => ?_, fun k hk => ?_, ?_, ?_, a3⟩
      · simp only [List.mem_cons, List.not_mem_nil, or_false, not_or] at hi
        rw [a1 i (by simp [hi]), e1, up_row (by omega)]
      · rw [c17, e1, up_n (fun q => hk q.2)]
      · rw [c17, e1, up_s]
      · exact hx1.of (by rw [a1 16 (by decide)]; exact hx1.1.1) (by rw [c17]; exact hx1.1.2) (a1 29 (by decide)) (a1 30 (by decide)) (a1 31 (by decide)) (a1 32 (by decide)))
  · exfalso; omega

/-- the class's cells, but scratch, behind a change of the text t to n bytes -/
def TextQ (σ σ' : Mem) (t : Nat) (n : Int) (b : Int → Int) : Prop := InvC σ' ∧ (∀ i, i ∉ [0, 2, 8, 9, 10, 11, 12, 13, 14, 15, 16, 17, 29, 30, 33, 34, 35, 36] → σ' i = σ i) ∧ σ' 0 7 = σ 0 7 ∧ σ' (16 + t) 3 = n ∧ σ' (29 + t) = b ∧ σ' (16 + (1 - t)) 3 = σ (16 + (1 - t)) 3 ∧ σ' (29 + (1 - t)) = σ (29 + (1 - t))

theorem s_type {Θ : Th} {σ : Mem} (text b : Int) (ht : rng text) (hbr : rng b) (h : InvC σ) : Spc Θ M_X7_type 1 [.ref (Th.r Θ 0), .int (I text), .int (I b)] σ (fun r σ' => (¬ ((0 ≤ text ∧ text < 2) ∧ (0 ≤ b ∧ b < 256)) ∧ r = -2 ∧ σ' = σ) ∨ (((0 ≤ text ∧ text < 2) ∧ (0 ≤ b ∧ b < 256)) ∧ σ (16 + text.toNat) 3 = 39 ∧ r = -4 ∧ σ' = σ) ∨ (((0 ≤ text ∧ text < 2) ∧ (0 ≤ b ∧ b < 256)) ∧ σ (16 + text.toNat) 3 < 39 ∧ r = σ (16 + text.toNat) 3 + 1 ∧ TextQ σ σ' text.toNat (σ (16 + text.toNat) 3 + 1) (up σ (29 + text.toNat) (σ (16 + text.toNat) 3) b (29 + text.toNat)))) := by
  refine Spc_of (by decide +kernel) (Nat.le_of_ble_eq_true rfl) (fun Γ hB hE => ?_)
  show Run Θ Γ 0 [(0, .ref (Th.r Θ 0)), (1, .int (I text)), (2, .int (I b))] [] σ
  have hx := h.1
  have hx0 := h.1.1.1
  have hx1 := h.1.1.2
  refine R_iload_n hB (j := 1) dX7_type_0 rfl rfl ?_
  refine R_aload_n hB (j := 0) dX7_type_1 rfl rfl ?_
  refine R_getr hB (22) fl_X7_9 dX7_type_2 rfl rfl ?_
  refine R_alen hB (z := 2) rfl (by decide) rfl dX7_type_5 ?_
  refine P_cS1 hB (s_within _ _ (by omega) (by omega)) ms_X7_89 (by decide) dX7_type_6 rfl rfl (Nat.le_of_ble_eq_true rfl) (fun z6 h6 => ?_)
  refine R_if_eq hB 22 (by rw [h6]; split <;> omega) dX7_type_9 rfl (fun h9 => ?_) (fun h9 => ?_)
  · have hno : ¬ ((0 ≤ text ∧ text < 2) ∧ (0 ≤ b ∧ b < 256)) := by split at h6 <;> omega
    refine R_bipush hB dX7_type_22 rfl ?_
    exact R_iret hB hE rfl dX7_type_24 (Or.inl ⟨hno, rfl, rfl⟩)
  · have hy : 0 ≤ text ∧ text < 2 := by split at h6 <;> omega
    refine R_iload_n hB (j := 2) dX7_type_12 rfl rfl ?_
    refine R_sipush hB dX7_type_13 rfl ?_
    refine P_cS1 hB (s_within _ _ (by omega) (by omega)) ms_X7_89 (by decide) dX7_type_16 rfl rfl (Nat.le_of_ble_eq_true rfl) (fun z16 h16 => ?_)
    refine R_if_ne hB 25 (by rw [h16]; split <;> omega) dX7_type_19 rfl (fun h19 => ?_) (fun h19 => ?_)
    · have hyb : 0 ≤ b ∧ b < 256 := by split at h16 <;> omega
      rcases (show text = 0 ∨ text = 1 by omega) with rfl | rfl
      · show Run Θ Γ 25 [(0, .ref (Th.r Θ 0)), (1, .int (I 0)), (2, .int (I b))] [] σ
        refine R_aload_n hB (j := 0) dX7_type_25 rfl rfl ?_
        refine R_getr hB (22) fl_X7_9 dX7_type_26 rfl rfl ?_
        refine R_iload_n hB (j := 1) dX7_type_29 rfl rfl ?_
        refine R_aald hB (16) rfl (by decide) (by omega) rfl dX7_type_30 ?_
        refine R_astore_n hB (L' := [_, _, _, _]) dX7_type_31 rfl (Nat.le_of_ble_eq_true rfl) rfl ?_
        refine R_aload_n hB (j := 0) dX7_type_32 rfl rfl ?_
        refine R_geti hB fl_X7_93 dX7_type_33 rfl ?_
        refine R_bipush hB dX7_type_36 rfl ?_
        refine R_icmp_lt hB 44 (by omega) (by omega) dX7_type_38 rfl (fun h38 => ?_) (fun h38 => ?_)
        · refine R_aload_n hB (j := 0) dX7_type_44 rfl rfl ?_
          refine R_getr hB (29) fl_X7_97 dX7_type_45 rfl rfl ?_
          refine R_aload_n hB (j := 0) dX7_type_48 rfl rfl ?_
          refine R_geti hB fl_X7_93 dX7_type_49 rfl ?_
          refine R_iload_n hB (j := 3) dX7_type_52 rfl rfl ?_
          refine N_iast hB rfl (by omega) (by omega) dX7_type_53 (fun σ1 e1 => ?_)
          refine R_aload_n hB (j := 1) dX7_type_54 rfl rfl ?_
          refine R_iload_n hB (j := 2) dX7_type_55 rfl rfl ?_
          refine R_aload_n hB (j := 0) dX7_type_56 rfl rfl ?_
          refine R_geti hB fl_X7_93 dX7_type_57 rfl ?_
          refine R_iconst hB dX7_type_60 ?_
          refine R_iadd hB dX7_type_61 ?_
          have t1 : σ1 16 = σ 16 := by rw [e1]; exact up_row (by decide)
          have hxx : TxOK σ1 := by
            rw [TxOK, t1, show σ1 17 = σ 17 by rw [e1]; exact up_row (by decide), show σ1 30 = σ 30 by rw [e1]; exact up_row (by decide), show σ1 31 = σ 31 by rw [e1]; exact up_row (by decide), show σ1 32 = σ 32 by rw [e1]; exact up_row (by decide)]
            refine ⟨hx.1, ⟨fun k q1 q2 => ?_, hx.2.1.2⟩, hx.2.2⟩
            rw [e1]
            unfold up
            split
            · exact hyb
            · exact hx.2.1.1 k q1 q2
          refine R_cV1 hB (s_resize_0 _ (by rw [t1]; omega) hxx) mv_X7_100 rfl rfl (by decide) dX7_type_62 rfl rfl (Nat.le_of_ble_eq_true rfl) (fun z62 σ2 h62 => ?_)
          exact R_iret hB hE rfl dX7_type_65 (Or.inr (Or.inr ⟨⟨hy, hyb⟩, (by show σ 16 3 < 39; omega), (by have := h62.1; rw [t1] at this; exact this), (by rw [t1] at h62; exact (by
            obtain ⟨j1, j2, j3, j4, j5, j6, j7⟩ := h62
            refine ⟨h.tx0 j6 j7 (fun i hi => ?_) ?_, fun i hi => ?_, ?_, j5, ?_, ?_, ?_⟩
            · simp only [List.mem_cons, List.not_mem_nil, or_false, not_or] at hi
              rw [j2 i (by simp [hi]), e1, up_row (by omega)]
            · rw [j3 7 (by decide), e1, up_row (by decide)]
            · simp only [List.mem_cons, List.not_mem_nil, or_false, not_or] at hi
              rw [j2 i (by simp [hi]), e1, up_row (by omega)]
            · rw [j3 7 (by decide), e1, up_row (by decide)]
            · exact (j2 29 (by decide)).trans (by rw [e1]; rfl)
            · exact congrFun ((j2 17 (by decide)).trans (by rw [e1]; exact up_row (by decide))) 3
            · exact (j2 30 (by decide)).trans (by rw [e1]; exact up_row (by decide))))⟩))
        · refine R_bipush hB dX7_type_41 rfl ?_
          exact R_iret hB hE rfl dX7_type_43 (Or.inr (Or.inl ⟨⟨hy, hyb⟩, (by first | (show σ 16 3 = 39; omega) | (show σ 17 3 = 39; omega)), rfl, rfl⟩))
      · show Run Θ Γ 25 [(0, .ref (Th.r Θ 0)), (1, .int (I 1)), (2, .int (I b))] [] σ
        refine R_aload_n hB (j := 0) dX7_type_25 rfl rfl ?_
        refine R_getr hB (22) fl_X7_9 dX7_type_26 rfl rfl ?_
        refine R_iload_n hB (j := 1) dX7_type_29 rfl rfl ?_
        refine R_aald hB (17) rfl (by decide) (by omega) rfl dX7_type_30 ?_
        refine R_astore_n hB (L' := [_, _, _, _]) dX7_type_31 rfl (Nat.le_of_ble_eq_true rfl) rfl ?_
        refine R_aload_n hB (j := 0) dX7_type_32 rfl rfl ?_
        refine R_geti hB fl_X7_93 dX7_type_33 rfl ?_
        refine R_bipush hB dX7_type_36 rfl ?_
        refine R_icmp_lt hB 44 (by omega) (by omega) dX7_type_38 rfl (fun h38 => ?_) (fun h38 => ?_)
        · refine R_aload_n hB (j := 0) dX7_type_44 rfl rfl ?_
          refine R_getr hB (30) fl_X7_97 dX7_type_45 rfl rfl ?_
          refine R_aload_n hB (j := 0) dX7_type_48 rfl rfl ?_
          refine R_geti hB fl_X7_93 dX7_type_49 rfl ?_
          refine R_iload_n hB (j := 3) dX7_type_52 rfl rfl ?_
          refine N_iast hB rfl (by omega) (by omega) dX7_type_53 (fun σ1 e1 => ?_)
          refine R_aload_n hB (j := 1) dX7_type_54 rfl rfl ?_
          refine R_iload_n hB (j := 2) dX7_type_55 rfl rfl ?_
          refine R_aload_n hB (j := 0) dX7_type_56 rfl rfl ?_
          refine R_geti hB fl_X7_93 dX7_type_57 rfl ?_
          refine R_iconst hB dX7_type_60 ?_
          refine R_iadd hB dX7_type_61 ?_
          have t1 : σ1 17 = σ 17 := by rw [e1]; exact up_row (by decide)
          have hxx : TxOK σ1 := by
            rw [TxOK, t1, show σ1 16 = σ 16 by rw [e1]; exact up_row (by decide), show σ1 29 = σ 29 by rw [e1]; exact up_row (by decide), show σ1 31 = σ 31 by rw [e1]; exact up_row (by decide), show σ1 32 = σ 32 by rw [e1]; exact up_row (by decide)]
            refine ⟨hx.1, ⟨hx.2.1.1, fun k q1 q2 => ?_⟩, hx.2.2⟩
            rw [e1]
            unfold up
            split
            · exact hyb
            · exact hx.2.1.2 k q1 q2
          refine R_cV1 hB (s_resize_1 _ (by rw [t1]; omega) hxx) mv_X7_100 rfl rfl (by decide) dX7_type_62 rfl rfl (Nat.le_of_ble_eq_true rfl) (fun z62 σ2 h62 => ?_)
          exact R_iret hB hE rfl dX7_type_65 (Or.inr (Or.inr ⟨⟨hy, hyb⟩, (by show σ 17 3 < 39; omega), (by have := h62.1; rw [t1] at this; exact this), (by rw [t1] at h62; exact (by
            obtain ⟨j1, j2, j4, j5, j6, j7⟩ := h62
            refine ⟨h.tx1 j6 j7 (fun i hi => ?_), fun i hi => ?_, ?_, j5, ?_, ?_, ?_⟩
            · simp only [List.mem_cons, List.not_mem_nil, or_false, not_or] at hi
              rw [j2 i (by simp [hi]), e1, up_row (by omega)]
            · simp only [List.mem_cons, List.not_mem_nil, or_false, not_or] at hi
              rw [j2 i (by simp [hi]), e1, up_row (by omega)]
            · rw [j2 0 (by decide), e1, up_row (by decide)]
            · exact (j2 30 (by decide)).trans (by rw [e1]; rfl)
            · exact congrFun ((j2 16 (by decide)).trans (by rw [e1]; exact up_row (by decide))) 3
            · exact (j2 29 (by decide)).trans (by rw [e1]; exact up_row (by decide))))⟩))
        · refine R_bipush hB dX7_type_41 rfl ?_
          exact R_iret hB hE rfl dX7_type_43 (Or.inr (Or.inl ⟨⟨hy, hyb⟩, (by first | (show σ 16 3 = 39; omega) | (show σ 17 3 = 39; omega)), rfl, rfl⟩))
    · have hno : ¬ ((0 ≤ text ∧ text < 2) ∧ (0 ≤ b ∧ b < 256)) := by split at h16 <;> omega
      refine R_bipush hB dX7_type_22 rfl ?_
      exact R_iret hB hE rfl dX7_type_24 (Or.inl ⟨hno, rfl, rfl⟩)
