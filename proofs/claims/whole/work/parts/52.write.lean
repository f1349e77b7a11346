/-- how deep a sleeper sleeps in an hour -/
def dpH (σ : Mem) (s : Nat) (k : Int) : Int := deepOf (σ (8 + s) 2) (σ (8 + s) 3) (k - lnL (σ (8 + s)) (σ 33) (σ 34) (σ 35) (evs (σ 33) (σ 2 4).toNat k.toNat) (σ (8 + s) 1))

theorem s_write {Θ : Th} {σ : Mem} (s t : Int) (hs : rng s) (ht : rng t) (h : InvC σ) : Spc Θ M_X7_write 1 [.ref (Th.r Θ 0), .int (I s), .int (I t)] σ (fun r σ' => (¬ ((0 ≤ s ∧ s < σ 0 2) ∧ (0 ≤ t ∧ t < 4)) ∧ r = -2 ∧ σ' = σ) ∨ (((0 ≤ s ∧ s < σ 0 2) ∧ (0 ≤ t ∧ t < 4)) ∧ σ (18 + t.toNat) 1 = 1 ∧ r = -10 - 1 ∧ σ' = up σ 0 7 1 ∧ InvC σ') ∨ (((0 ≤ s ∧ s < σ 0 2) ∧ (0 ≤ t ∧ t < 4)) ∧ σ (18 + t.toNat) 1 = 0 ∧ r = min 50 (σ (18 + t.toNat) 3) ∧ InvC σ' ∧ (∀ i, i ∉ SC → i ≠ 49 + t.toNat → σ' i = σ i) ∧ ∀ x, σ' (49 + t.toNat) x = if 0 ≤ x ∧ x < r then cutF (σ (18 + t.toNat) 2) (dpH σ s.toNat x) else σ (49 + t.toNat) x)) := by
  refine Spc_of (by decide +kernel) (Nat.le_of_ble_eq_true rfl) (fun Γ hB hE => ?_)
  show Run Θ Γ 0 [(0, .ref (Th.r Θ 0)), (1, .int (I s)), (2, .int (I t))] [] σ
  have hns := h.ns
  have hw := h.row
  have hn := hw.1
  have hr := h.2.2.2.1
  refine R_iload_n hB (j := 1) dX7_write_0 rfl rfl ?_
  refine R_aload_n hB (j := 0) dX7_write_1 rfl rfl ?_
  refine R_geti hB fl_X7_118 dX7_write_2 rfl ?_
  refine P_cS1 hB (s_within _ _ (by omega) (by omega)) ms_X7_89 (by decide) dX7_write_5 rfl rfl (Nat.le_of_ble_eq_true rfl) (fun z5 h5 => ?_)
  refine R_if_eq hB 19 (by rw [h5]; split <;> omega) dX7_write_8 rfl (fun h8 => ?_) (fun h8 => ?_)
  · have hno : ¬ ((0 ≤ s ∧ s < σ 0 2) ∧ (0 ≤ t ∧ t < 4)) := by split at h5 <;> omega
    refine R_bipush hB dX7_write_19 rfl ?_
    exact R_iret hB hE rfl dX7_write_21 (Or.inl ⟨hno, rfl, rfl⟩)
  · have hy : 0 ≤ s ∧ s < σ 0 2 := by split at h5 <;> omega
    refine R_iload_n hB (j := 2) dX7_write_11 rfl rfl ?_
    refine R_iconst hB dX7_write_12 ?_
    refine P_cS1 hB (s_within _ _ (by omega) (by omega)) ms_X7_89 (by decide) dX7_write_13 rfl rfl (Nat.le_of_ble_eq_true rfl) (fun z13 h13 => ?_)
    refine R_if_ne hB 22 (by rw [h13]; split <;> omega) dX7_write_16 rfl (fun h16 => ?_) (fun h16 => ?_)
    · have hz : 0 ≤ t ∧ t < 4 := by split at h13 <;> omega
      rcases (show t = 0 ∨ t = 1 ∨ t = 2 ∨ t = 3 by omega) with rfl | rfl | rfl | rfl
      · show Run Θ Γ 22 [(0, .ref (Th.r Θ 0)), (1, .int (I s)), (2, .int (I 0))] [] σ
        refine R_aload_n hB (j := 0) dX7_write_22 rfl rfl ?_
        refine R_getr hB (24) fl_X7_41 dX7_write_23 rfl rfl ?_
        refine R_iload_n hB (j := 2) dX7_write_26 rfl rfl ?_
        refine R_aald hB (18) rfl (by decide) (by omega) rfl dX7_write_27 ?_
        refine R_astore_n hB (L' := [_, _, _, _]) dX7_write_28 rfl (Nat.le_of_ble_eq_true rfl) rfl ?_
        refine R_aload_n hB (j := 0) dX7_write_29 rfl rfl ?_
        refine R_getz hB fl_X7_233 dX7_write_30 rfl ?_
        have hq : (σ 18 1 = 0 ∨ σ 18 1 = 1) ∧ (0 ≤ σ 18 2 ∧ σ 18 2 < 3) ∧ (0 ≤ σ 18 3 ∧ σ 18 3 ≤ 60) := h.2.2.2.2.2.1 0 (by decide)
        refine R_if_eq hB 42 (by omega) dX7_write_33 rfl (fun h33 => ?_) (fun h33 => ?_)
        · refine R_bipush hB dX7_write_42 rfl ?_
          refine R_aload_n hB (j := 0) dX7_write_44 rfl rfl ?_
          refine R_geti hB fl_X7_240 dX7_write_45 rfl ?_
          refine P_min hB (by omega) (by omega) ms_X7_321 (by decide) dX7_write_48 (Nat.le_of_ble_eq_true rfl) ?_
          refine R_nmi (fun mn hmn => ?_)
          refine R_istore hB (L' := [_, _, _, _, _]) dX7_write_51 (Nat.le_of_ble_eq_true rfl) rfl ?_
          refine R_iconst hB dX7_write_53 ?_
          refine R_istore hB (L' := [_, _, _, _, _, _]) dX7_write_54 (Nat.le_of_ble_eq_true rfl) rfl ?_
          have lp_56 : ∀ (n_56 : Nat) (k : Int) (σ2 : Mem), ((mn - k).toNat) < n_56 → (0 ≤ k ∧ k ≤ mn) → (∀ i, i ∉ SC → i ≠ 49 → σ2 i = σ i) → (∀ x, σ2 49 x = if 0 ≤ x ∧ x < k then cutF (σ 18 2) (dpH σ s.toNat x) else σ 49 x) → Run Θ Γ 56 [(0, .ref (Th.r Θ 0)), (1, .int (I s)), (2, .int (I 0)), (3, .ref (Th.r Θ 18)), (4, .int (I mn)), (5, .int (I k))] [] σ2 := by
            intro n_56
            induction n_56 with
            | zero => intro k σ2 h_m; exact absurd h_m (Nat.not_lt_zero _)
            | succ n_56 ih_56 =>
              intro k σ2 h_m hk r2 hit
              have k2 : σ2 2 = σ 2 := r2 2 (by decide) (by decide)
              have k33 : σ2 33 = σ 33 := r2 33 (by decide) (by decide)
              have k34 : σ2 34 = σ 34 := r2 34 (by decide) (by decide)
              have k35 : σ2 35 = σ 35 := r2 35 (by decide) (by decide)
              have k36 : σ2 36 = σ 36 := r2 36 (by decide) (by decide)
              have kb : σ2 (8 + s.toNat) = σ (8 + s.toNat) := r2 _ (by simp; omega) (by omega)
              refine R_iload hB (j := 5) dX7_write_56 rfl ?_
              refine R_iload hB (j := 4) dX7_write_58 rfl ?_
              refine R_icmp_ge hB 94 (by omega) (by omega) dX7_write_60 rfl (fun h60 => ?_) (fun h60 => ?_)
              · refine R_iload hB (j := 4) dX7_write_94 rfl ?_
                exact R_iret hB hE rfl dX7_write_96 (Or.inr (Or.inr ⟨⟨hy, hz⟩, (by show σ 18 1 = 0; omega), hmn, (by
                    have hk : k = mn := by omega
                    rw [hk] at hit
                    refine ⟨h.same (σ' := fun i => if i = 49 then σ 49 else σ2 i) (fun i hi => ?_) |>.sh (fun i hi => ?_) ?_ ?_ (fun x hx => ?_), r2, hit⟩
                    · by_cases c : i = 49
                      · simp only [c, if_true]
                      · simp only [c, if_false]; exact r2 i hi c
                    · simp only [List.mem_cons, List.not_mem_nil, or_false, not_or] at hi
                      have c : i ≠ 49 := by omega
                      simp only [c, if_false]
                    · simp only [show (0 : Nat) ≠ 49 by decide, if_false]
                    · rw [r2 0 (by decide) (by decide)]; exact h.2.2.2.2.2.2
                    · rw [r2 (18 + x) (by simp; omega) (by omega)]; exact h.2.2.2.2.2.1 x hx)⟩))
              · refine R_aload_n hB (j := 3) dX7_write_63 rfl rfl ?_
                refine R_iload hB (j := 5) dX7_write_64 rfl ?_
                refine R_aload_n hB (j := 0) dX7_write_66 rfl rfl ?_
                refine R_getr hB (5) fl_X7_56 dX7_write_67 rfl rfl ?_
                refine R_iload hB (j := 5) dX7_write_70 rfl ?_
                refine R_aload_n hB (j := 0) dX7_write_72 rfl rfl ?_
                refine R_getr hB (23) fl_X7_17 dX7_write_73 rfl rfl ?_
                refine R_iload_n hB (j := 1) dX7_write_76 rfl rfl ?_
                refine R_aald hB (8 + (s).toNat) rfl (by decide) (by omega) rfl dX7_write_77 ?_
                refine R_aload_n hB (j := 0) dX7_write_78 rfl rfl ?_
                refine R_getr hB (2) fl_X7_24 dX7_write_79 rfl rfl ?_
                refine R_cV1 hB (s_deepIn k (by omega) (8 + s.toNat) (cls_bed (by omega)) (by rw [kb]; exact h.bed (by omega)) (by rw [k33, k34, k35, k36, k2]; exact hw)) mv_X7_172 rfl rfl (by decide) dX7_write_82 rfl rfl (Nat.le_of_ble_eq_true rfl) (fun z82 σ3 h82 => ?_)
                rw [kb, k33, k34, k35, k2] at h82
                obtain ⟨c1, c2⟩ := h82
                have hde := deepOf_in (su := σ (8 + s.toNat) 2) (kd := σ (8 + s.toNat) 3) (h := k - lnL (σ (8 + s.toNat)) (σ 33) (σ 34) (σ 35) (evs (σ 33) (σ 2 4).toNat k.toNat) (σ (8 + s.toNat) 1)) (h.bed (s := s.toNat) (by omega)).2.2.1
                rw [← c2] at hde
                refine R_cV0 hB (s_enter_0 k z82 (by omega) (by omega) (by rw [c1 18 (by decide), r2 18 (by decide) (by decide)]; exact hq.2.1)) mv_X7_307 rfl rfl (by decide) dX7_write_85 rfl rfl (Nat.le_of_ble_eq_true rfl) (fun σ4 h85 => ?_)
                rw [c1 18 (by decide), r2 18 (by decide) (by decide)] at h85
                refine R_iinc hB (j := 5) (L' := [_, _, _, _, _, _]) dX7_write_88 rfl (Nat.le_of_ble_eq_true rfl) rfl ?_
                refine R_goto hB 56 dX7_write_91 rfl ?_
                exact R_sub [1, 2, 3, 4, 5, 0] rfl (ih_56 _ _ (by omega) (by omega) (fun i hi hne => by
                  rw [h85, up_row hne, c1 i (fun q => hi (by simp at q ⊢; omega)), r2 i hi hne]) (fun x => by
                  rw [h85]
                  by_cases c : x = k
                  · rw [c, up_s, if_pos (by omega), c2]; rfl
                  · rw [up_n (fun q => c q.2), c1 49 (by decide), hit x]
                    by_cases c2 : 0 ≤ x ∧ x < k
                    · rw [if_pos c2, if_pos (by omega)]
                    · rw [if_neg c2, if_neg (by omega)]))
          exact R_sub [3, 4, 5, 2, 1, 0] rfl (lp_56 _ _ _ (Nat.lt_succ_self _) (by omega) (fun i _ _ => rfl) (fun x => by rw [if_neg (by omega)]))
        · refine R_aload_n hB (j := 1) dX7_write_36 rfl rfl ?_
          refine R_iconst hB dX7_write_37 ?_
          refine R_cV1 hB (s_found _ (by omega)) mv_X7_237 rfl rfl (by decide) dX7_write_38 rfl rfl (Nat.le_of_ble_eq_true rfl) (fun z38 σ1 h38 => ?_)
          exact R_iret hB hE rfl dX7_write_41 (Or.inr (Or.inl ⟨⟨hy, hz⟩, (by show σ 18 1 = 1; omega), h38.1, h38.2, by rw [h38.2]; exact h.fnd (by omega)⟩))
      · show Run Θ Γ 22 [(0, .ref (Th.r Θ 0)), (1, .int (I s)), (2, .int (I 1))] [] σ
        refine R_aload_n hB (j := 0) dX7_write_22 rfl rfl ?_
        refine R_getr hB (24) fl_X7_41 dX7_write_23 rfl rfl ?_
        refine R_iload_n hB (j := 2) dX7_write_26 rfl rfl ?_
        refine R_aald hB (19) rfl (by decide) (by omega) rfl dX7_write_27 ?_
        refine R_astore_n hB (L' := [_, _, _, _]) dX7_write_28 rfl (Nat.le_of_ble_eq_true rfl) rfl ?_
        refine R_aload_n hB (j := 0) dX7_write_29 rfl rfl ?_
        refine R_getz hB fl_X7_233 dX7_write_30 rfl ?_
        have hq : (σ 19 1 = 0 ∨ σ 19 1 = 1) ∧ (0 ≤ σ 19 2 ∧ σ 19 2 < 3) ∧ (0 ≤ σ 19 3 ∧ σ 19 3 ≤ 60) := h.2.2.2.2.2.1 1 (by decide)
        refine R_if_eq hB 42 (by omega) dX7_write_33 rfl (fun h33 => ?_) (fun h33 => ?_)
        · refine R_bipush hB dX7_write_42 rfl ?_
          refine R_aload_n hB (j := 0) dX7_write_44 rfl rfl ?_
          refine R_geti hB fl_X7_240 dX7_write_45 rfl ?_
          refine P_min hB (by omega) (by omega) ms_X7_321 (by decide) dX7_write_48 (Nat.le_of_ble_eq_true rfl) ?_
          refine R_nmi (fun mn hmn => ?_)
          refine R_istore hB (L' := [_, _, _, _, _]) dX7_write_51 (Nat.le_of_ble_eq_true rfl) rfl ?_
          refine R_iconst hB dX7_write_53 ?_
          refine R_istore hB (L' := [_, _, _, _, _, _]) dX7_write_54 (Nat.le_of_ble_eq_true rfl) rfl ?_
          have lp_56 : ∀ (n_56 : Nat) (k : Int) (σ2 : Mem), ((mn - k).toNat) < n_56 → (0 ≤ k ∧ k ≤ mn) → (∀ i, i ∉ SC → i ≠ 50 → σ2 i = σ i) → (∀ x, σ2 50 x = if 0 ≤ x ∧ x < k then cutF (σ 19 2) (dpH σ s.toNat x) else σ 50 x) → Run Θ Γ 56 [(0, .ref (Th.r Θ 0)), (1, .int (I s)), (2, .int (I 1)), (3, .ref (Th.r Θ 19)), (4, .int (I mn)), (5, .int (I k))] [] σ2 := by
            intro n_56
            induction n_56 with
            | zero => intro k σ2 h_m; exact absurd h_m (Nat.not_lt_zero _)
            | succ n_56 ih_56 =>
              intro k σ2 h_m hk r2 hit
              have k2 : σ2 2 = σ 2 := r2 2 (by decide) (by decide)
              have k33 : σ2 33 = σ 33 := r2 33 (by decide) (by decide)
              have k34 : σ2 34 = σ 34 := r2 34 (by decide) (by decide)
              have k35 : σ2 35 = σ 35 := r2 35 (by decide) (by decide)
              have k36 : σ2 36 = σ 36 := r2 36 (by decide) (by decide)
              have kb : σ2 (8 + s.toNat) = σ (8 + s.toNat) := r2 _ (by simp; omega) (by omega)
              refine R_iload hB (j := 5) dX7_write_56 rfl ?_
              refine R_iload hB (j := 4) dX7_write_58 rfl ?_
              refine R_icmp_ge hB 94 (by omega) (by omega) dX7_write_60 rfl (fun h60 => ?_) (fun h60 => ?_)
              · refine R_iload hB (j := 4) dX7_write_94 rfl ?_
                exact R_iret hB hE rfl dX7_write_96 (Or.inr (Or.inr ⟨⟨hy, hz⟩, (by show σ 19 1 = 0; omega), hmn, (by
                    have hk : k = mn := by omega
                    rw [hk] at hit
                    refine ⟨h.same (σ' := fun i => if i = 50 then σ 50 else σ2 i) (fun i hi => ?_) |>.sh (fun i hi => ?_) ?_ ?_ (fun x hx => ?_), r2, hit⟩
                    · by_cases c : i = 50
                      · simp only [c, if_true]
                      · simp only [c, if_false]; exact r2 i hi c
                    · simp only [List.mem_cons, List.not_mem_nil, or_false, not_or] at hi
                      have c : i ≠ 50 := by omega
                      simp only [c, if_false]
                    · simp only [show (0 : Nat) ≠ 50 by decide, if_false]
                    · rw [r2 0 (by decide) (by decide)]; exact h.2.2.2.2.2.2
                    · rw [r2 (18 + x) (by simp; omega) (by omega)]; exact h.2.2.2.2.2.1 x hx)⟩))
              · refine R_aload_n hB (j := 3) dX7_write_63 rfl rfl ?_
                refine R_iload hB (j := 5) dX7_write_64 rfl ?_
                refine R_aload_n hB (j := 0) dX7_write_66 rfl rfl ?_
                refine R_getr hB (5) fl_X7_56 dX7_write_67 rfl rfl ?_
                refine R_iload hB (j := 5) dX7_write_70 rfl ?_
                refine R_aload_n hB (j := 0) dX7_write_72 rfl rfl ?_
                refine R_getr hB (23) fl_X7_17 dX7_write_73 rfl rfl ?_
                refine R_iload_n hB (j := 1) dX7_write_76 rfl rfl ?_
                refine R_aald hB (8 + (s).toNat) rfl (by decide) (by omega) rfl dX7_write_77 ?_
                refine R_aload_n hB (j := 0) dX7_write_78 rfl rfl ?_
                refine R_getr hB (2) fl_X7_24 dX7_write_79 rfl rfl ?_
                refine R_cV1 hB (s_deepIn k (by omega) (8 + s.toNat) (cls_bed (by omega)) (by rw [kb]; exact h.bed (by omega)) (by rw [k33, k34, k35, k36, k2]; exact hw)) mv_X7_172 rfl rfl (by decide) dX7_write_82 rfl rfl (Nat.le_of_ble_eq_true rfl) (fun z82 σ3 h82 => ?_)
                rw [kb, k33, k34, k35, k2] at h82
                obtain ⟨c1, c2⟩ := h82
                have hde := deepOf_in (su := σ (8 + s.toNat) 2) (kd := σ (8 + s.toNat) 3) (h := k - lnL (σ (8 + s.toNat)) (σ 33) (σ 34) (σ 35) (evs (σ 33) (σ 2 4).toNat k.toNat) (σ (8 + s.toNat) 1)) (h.bed (s := s.toNat) (by omega)).2.2.1
                rw [← c2] at hde
                refine R_cV0 hB (s_enter_1 k z82 (by omega) (by omega) (by rw [c1 19 (by decide), r2 19 (by decide) (by decide)]; exact hq.2.1)) mv_X7_307 rfl rfl (by decide) dX7_write_85 rfl rfl (Nat.le_of_ble_eq_true rfl) (fun σ4 h85 => ?_)
                rw [c1 19 (by decide), r2 19 (by decide) (by decide)] at h85
                refine R_iinc hB (j := 5) (L' := [_, _, _, _, _, _]) dX7_write_88 rfl (Nat.le_of_ble_eq_true rfl) rfl ?_
                refine R_goto hB 56 dX7_write_91 rfl ?_
                exact R_sub [1, 2, 3, 4, 5, 0] rfl (ih_56 _ _ (by omega) (by omega) (fun i hi hne => by
                  rw [h85, up_row hne, c1 i (fun q => hi (by simp at q ⊢; omega)), r2 i hi hne]) (fun x => by
                  rw [h85]
                  by_cases c : x = k
                  · rw [c, up_s, if_pos (by omega), c2]; rfl
                  · rw [up_n (fun q => c q.2), c1 50 (by decide), hit x]
                    by_cases c2 : 0 ≤ x ∧ x < k
                    · rw [if_pos c2, if_pos (by omega)]
                    · rw [if_neg c2, if_neg (by omega)]))
          exact R_sub [3, 4, 5, 2, 1, 0] rfl (lp_56 _ _ _ (Nat.lt_succ_self _) (by omega) (fun i _ _ => rfl) (fun x => by rw [if_neg (by omega)]))
        · refine R_aload_n hB (j := 1) dX7_write_36 rfl rfl ?_
          refine R_iconst hB dX7_write_37 ?_
          refine R_cV1 hB (s_found _ (by omega)) mv_X7_237 rfl rfl (by decide) dX7_write_38 rfl rfl (Nat.le_of_ble_eq_true rfl) (fun z38 σ1 h38 => ?_)
          exact R_iret hB hE rfl dX7_write_41 (Or.inr (Or.inl ⟨⟨hy, hz⟩, (by show σ 19 1 = 1; omega), h38.1, h38.2, by rw [h38.2]; exact h.fnd (by omega)⟩))
      · show Run Θ Γ 22 [(0, .ref (Th.r Θ 0)), (1, .int (I s)), (2, .int (I 2))] [] σ
        refine R_aload_n hB (j := 0) dX7_write_22 rfl rfl ?_
        refine R_getr hB (24) fl_X7_41 dX7_write_23 rfl rfl ?_
        refine R_iload_n hB (j := 2) dX7_write_26 rfl rfl ?_
        refine R_aald hB (20) rfl (by decide) (by omega) rfl dX7_write_27 ?_
        refine R_astore_n hB (L' := [_, _, _, _]) dX7_write_28 rfl (Nat.le_of_ble_eq_true rfl) rfl ?_
        refine R_aload_n hB (j := 0) dX7_write_29 rfl rfl ?_
        refine R_getz hB fl_X7_233 dX7_write_30 rfl ?_
        have hq : (σ 20 1 = 0 ∨ σ 20 1 = 1) ∧ (0 ≤ σ 20 2 ∧ σ 20 2 < 3) ∧ (0 ≤ σ 20 3 ∧ σ 20 3 ≤ 60) := h.2.2.2.2.2.1 2 (by decide)
        refine R_if_eq hB 42 (by omega) dX7_write_33 rfl (fun h33 => ?_) (fun h33 => ?_)
        · refine R_bipush hB dX7_write_42 rfl ?_
          refine R_aload_n hB (j := 0) dX7_write_44 rfl rfl ?_
          refine R_geti hB fl_X7_240 dX7_write_45 rfl ?_
          refine P_min hB (by omega) (by omega) ms_X7_321 (by decide) dX7_write_48 (Nat.le_of_ble_eq_true rfl) ?_
          refine R_nmi (fun mn hmn => ?_)
          refine R_istore hB (L' := [_, _, _, _, _]) dX7_write_51 (Nat.le_of_ble_eq_true rfl) rfl ?_
          refine R_iconst hB dX7_write_53 ?_
          refine R_istore hB (L' := [_, _, _, _, _, _]) dX7_write_54 (Nat.le_of_ble_eq_true rfl) rfl ?_
          have lp_56 : ∀ (n_56 : Nat) (k : Int) (σ2 : Mem), ((mn - k).toNat) < n_56 → (0 ≤ k ∧ k ≤ mn) → (∀ i, i ∉ SC → i ≠ 51 → σ2 i = σ i) → (∀ x, σ2 51 x = if 0 ≤ x ∧ x < k then cutF (σ 20 2) (dpH σ s.toNat x) else σ 51 x) → Run Θ Γ 56 [(0, .ref (Th.r Θ 0)), (1, .int (I s)), (2, .int (I 2)), (3, .ref (Th.r Θ 20)), (4, .int (I mn)), (5, .int (I k))] [] σ2 := by
            intro n_56
            induction n_56 with
            | zero => intro k σ2 h_m; exact absurd h_m (Nat.not_lt_zero _)
            | succ n_56 ih_56 =>
              intro k σ2 h_m hk r2 hit
              have k2 : σ2 2 = σ 2 := r2 2 (by decide) (by decide)
              have k33 : σ2 33 = σ 33 := r2 33 (by decide) (by decide)
              have k34 : σ2 34 = σ 34 := r2 34 (by decide) (by decide)
              have k35 : σ2 35 = σ 35 := r2 35 (by decide) (by decide)
              have k36 : σ2 36 = σ 36 := r2 36 (by decide) (by decide)
              have kb : σ2 (8 + s.toNat) = σ (8 + s.toNat) := r2 _ (by simp; omega) (by omega)
              refine R_iload hB (j := 5) dX7_write_56 rfl ?_
              refine R_iload hB (j := 4) dX7_write_58 rfl ?_
              refine R_icmp_ge hB 94 (by omega) (by omega) dX7_write_60 rfl (fun h60 => ?_) (fun h60 => ?_)
              · refine R_iload hB (j := 4) dX7_write_94 rfl ?_
                exact R_iret hB hE rfl dX7_write_96 (Or.inr (Or.inr ⟨⟨hy, hz⟩, (by show σ 20 1 = 0; omega), hmn, (by
                    have hk : k = mn := by omega
                    rw [hk] at hit
                    refine ⟨h.same (σ' := fun i => if i = 51 then σ 51 else σ2 i) (fun i hi => ?_) |>.sh (fun i hi => ?_) ?_ ?_ (fun x hx => ?_), r2, hit⟩
                    · by_cases c : i = 51
                      · simp only [c, if_true]
                      · simp only [c, if_false]; exact r2 i hi c
                    · simp only [List.mem_cons, List.not_mem_nil, or_false, not_or] at hi
                      have c : i ≠ 51 := by omega
                      simp only [c, if_false]
                    · simp only [show (0 : Nat) ≠ 51 by decide, if_false]
                    · rw [r2 0 (by decide) (by decide)]; exact h.2.2.2.2.2.2
                    · rw [r2 (18 + x) (by simp; omega) (by omega)]; exact h.2.2.2.2.2.1 x hx)⟩))
              · refine R_aload_n hB (j := 3) dX7_write_63 rfl rfl ?_
                refine R_iload hB (j := 5) dX7_write_64 rfl ?_
                refine R_aload_n hB (j := 0) dX7_write_66 rfl rfl ?_
                refine R_getr hB (5) fl_X7_56 dX7_write_67 rfl rfl ?_
                refine R_iload hB (j := 5) dX7_write_70 rfl ?_
                refine R_aload_n hB (j := 0) dX7_write_72 rfl rfl ?_
                refine R_getr hB (23) fl_X7_17 dX7_write_73 rfl rfl ?_
                refine R_iload_n hB (j := 1) dX7_write_76 rfl rfl ?_
                refine R_aald hB (8 + (s).toNat) rfl (by decide) (by omega) rfl dX7_write_77 ?_
                refine R_aload_n hB (j := 0) dX7_write_78 rfl rfl ?_
                refine R_getr hB (2) fl_X7_24 dX7_write_79 rfl rfl ?_
                refine R_cV1 hB (s_deepIn k (by omega) (8 + s.toNat) (cls_bed (by omega)) (by rw [kb]; exact h.bed (by omega)) (by rw [k33, k34, k35, k36, k2]; exact hw)) mv_X7_172 rfl rfl (by decide) dX7_write_82 rfl rfl (Nat.le_of_ble_eq_true rfl) (fun z82 σ3 h82 => ?_)
                rw [kb, k33, k34, k35, k2] at h82
                obtain ⟨c1, c2⟩ := h82
                have hde := deepOf_in (su := σ (8 + s.toNat) 2) (kd := σ (8 + s.toNat) 3) (h := k - lnL (σ (8 + s.toNat)) (σ 33) (σ 34) (σ 35) (evs (σ 33) (σ 2 4).toNat k.toNat) (σ (8 + s.toNat) 1)) (h.bed (s := s.toNat) (by omega)).2.2.1
                rw [← c2] at hde
                refine R_cV0 hB (s_enter_2 k z82 (by omega) (by omega) (by rw [c1 20 (by decide), r2 20 (by decide) (by decide)]; exact hq.2.1)) mv_X7_307 rfl rfl (by decide) dX7_write_85 rfl rfl (Nat.le_of_ble_eq_true rfl) (fun σ4 h85 => ?_)
                rw [c1 20 (by decide), r2 20 (by decide) (by decide)] at h85
                refine R_iinc hB (j := 5) (L' := [_, _, _, _, _, _]) dX7_write_88 rfl (Nat.le_of_ble_eq_true rfl) rfl ?_
                refine R_goto hB 56 dX7_write_91 rfl ?_
                exact R_sub [1, 2, 3, 4, 5, 0] rfl (ih_56 _ _ (by omega) (by omega) (fun i hi hne => by
                  rw [h85, up_row hne, c1 i (fun q => hi (by simp at q ⊢; omega)), r2 i hi hne]) (fun x => by
                  rw [h85]
                  by_cases c : x = k
                  · rw [c, up_s, if_pos (by omega), c2]; rfl
                  · rw [up_n (fun q => c q.2), c1 51 (by decide), hit x]
                    by_cases c2 : 0 ≤ x ∧ x < k
                    · rw [if_pos c2, if_pos (by omega)]
                    · rw [if_neg c2, if_neg (by omega)]))
          exact R_sub [3, 4, 5, 2, 1, 0] rfl (lp_56 _ _ _ (Nat.lt_succ_self _) (by omega) (fun i _ _ => rfl) (fun x => by rw [if_neg (by omega)]))
        · refine R_aload_n hB (j := 1) dX7_write_36 rfl rfl ?_
          refine R_iconst hB dX7_write_37 ?_
          refine R_cV1 hB (s_found _ (by omega)) mv_X7_237 rfl rfl (by decide) dX7_write_38 rfl rfl (Nat.le_of_ble_eq_true rfl) (fun z38 σ1 h38 => ?_)
          exact R_iret hB hE rfl dX7_write_41 (Or.inr (Or.inl ⟨⟨hy, hz⟩, (by show σ 20 1 = 1; omega), h38.1, h38.2, by rw [h38.2]; exact h.fnd (by omega)⟩))
      · show Run Θ Γ 22 [(0, .ref (Th.r Θ 0)), (1, .int (I s)), (2, .int (I 3))] [] σ
        refine R_aload_n hB (j := 0) dX7_write_22 rfl rfl ?_
        refine R_getr hB (24) fl_X7_41 dX7_write_23 rfl rfl ?_
        refine R_iload_n hB (j := 2) dX7_write_26 rfl rfl ?_
        refine R_aald hB (21) rfl (by decide) (by omega) rfl dX7_write_27 ?_
        refine R_astore_n hB (L' := [_, _, _, _]) dX7_write_28 rfl (Nat.le_of_ble_eq_true rfl) rfl ?_
        refine R_aload_n hB (j := 0) dX7_write_29 rfl rfl ?_
        refine R_getz hB fl_X7_233 dX7_write_30 rfl ?_
        have hq : (σ 21 1 = 0 ∨ σ 21 1 = 1) ∧ (0 ≤ σ 21 2 ∧ σ 21 2 < 3) ∧ (0 ≤ σ 21 3 ∧ σ 21 3 ≤ 60) := h.2.2.2.2.2.1 3 (by decide)
        refine R_if_eq hB 42 (by omega) dX7_write_33 rfl (fun h33 => ?_) (fun h33 => ?_)
        · refine R_bipush hB dX7_write_42 rfl ?_
          refine R_aload_n hB (j := 0) dX7_write_44 rfl rfl ?_
          refine R_geti hB fl_X7_240 dX7_write_45 rfl ?_
          refine P_min hB (by omega) (by omega) ms_X7_321 (by decide) dX7_write_48 (Nat.le_of_ble_eq_true rfl) ?_
          refine R_nmi (fun mn hmn => ?_)
          refine R_istore hB (L' := [_, _, _, _, _]) dX7_write_51 (Nat.le_of_ble_eq_true rfl) rfl ?_
          refine R_iconst hB dX7_write_53 ?_
          refine R_istore hB (L' := [_, _, _, _, _, _]) dX7_write_54 (Nat.le_of_ble_eq_true rfl) rfl ?_
          have lp_56 : ∀ (n_56 : Nat) (k : Int) (σ2 : Mem), ((mn - k).toNat) < n_56 → (0 ≤ k ∧ k ≤ mn) → (∀ i, i ∉ SC → i ≠ 52 → σ2 i = σ i) → (∀ x, σ2 52 x = if 0 ≤ x ∧ x < k then cutF (σ 21 2) (dpH σ s.toNat x) else σ 52 x) → Run Θ Γ 56 [(0, .ref (Th.r Θ 0)), (1, .int (I s)), (2, .int (I 3)), (3, .ref (Th.r Θ 21)), (4, .int (I mn)), (5, .int (I k))] [] σ2 := by
            intro n_56
            induction n_56 with
            | zero => intro k σ2 h_m; exact absurd h_m (Nat.not_lt_zero _)
            | succ n_56 ih_56 =>
              intro k σ2 h_m hk r2 hit
              have k2 : σ2 2 = σ 2 := r2 2 (by decide) (by decide)
              have k33 : σ2 33 = σ 33 := r2 33 (by decide) (by decide)
              have k34 : σ2 34 = σ 34 := r2 34 (by decide) (by decide)
              have k35 : σ2 35 = σ 35 := r2 35 (by decide) (by decide)
              have k36 : σ2 36 = σ 36 := r2 36 (by decide) (by decide)
              have kb : σ2 (8 + s.toNat) = σ (8 + s.toNat) := r2 _ (by simp; omega) (by omega)
              refine R_iload hB (j := 5) dX7_write_56 rfl ?_
              refine R_iload hB (j := 4) dX7_write_58 rfl ?_
              refine R_icmp_ge hB 94 (by omega) (by omega) dX7_write_60 rfl (fun h60 => ?_) (fun h60 => ?_)
              · refine R_iload hB (j := 4) dX7_write_94 rfl ?_
                exact R_iret hB hE rfl dX7_write_96 (Or.inr (Or.inr ⟨⟨hy, hz⟩, (by show σ 21 1 = 0; omega), hmn, (by
                    have hk : k = mn := by omega
                    rw [hk] at hit
                    refine ⟨h.same (σ' := fun i => if i = 52 then σ 52 else σ2 i) (fun i hi => ?_) |>.sh (fun i hi => ?_) ?_ ?_ (fun x hx => ?_), r2, hit⟩
                    · by_cases c : i = 52
                      · simp only [c, if_true]
                      · simp only [c, if_false]; exact r2 i hi c
                    · simp only [List.mem_cons, List.not_mem_nil, or_false, not_or] at hi
                      have c : i ≠ 52 := by omega
                      simp only [c, if_false]
                    · simp only [show (0 : Nat) ≠ 52 by decide, if_false]
                    · rw [r2 0 (by decide) (by decide)]; exact h.2.2.2.2.2.2
                    · rw [r2 (18 + x) (by simp; omega) (by omega)]; exact h.2.2.2.2.2.1 x hx)⟩))
              · refine R_aload_n hB (j := 3) dX7_write_63 rfl rfl ?_
                refine R_iload hB (j := 5) dX7_write_64 rfl ?_
                refine R_aload_n hB (j := 0) dX7_write_66 rfl rfl ?_
                refine R_getr hB (5) fl_X7_56 dX7_write_67 rfl rfl ?_
                refine R_iload hB (j := 5) dX7_write_70 rfl ?_
                refine R_aload_n hB (j := 0) dX7_write_72 rfl rfl ?_
                refine R_getr hB (23) fl_X7_17 dX7_write_73 rfl rfl ?_
                refine R_iload_n hB (j := 1) dX7_write_76 rfl rfl ?_
                refine R_aald hB (8 + (s).toNat) rfl (by decide) (by omega) rfl dX7_write_77 ?_
                refine R_aload_n hB (j := 0) dX7_write_78 rfl rfl ?_
                refine R_getr hB (2) fl_X7_24 dX7_write_79 rfl rfl ?_
                refine R_cV1 hB (s_deepIn k (by omega) (8 + s.toNat) (cls_bed (by omega)) (by rw [kb]; exact h.bed (by omega)) (by rw [k33, k34, k35, k36, k2]; exact hw)) mv_X7_172 rfl rfl (by decide) dX7_write_82 rfl rfl (Nat.le_of_ble_eq_true rfl) (fun z82 σ3 h82 => ?_)
                rw [kb, k33, k34, k35, k2] at h82
                obtain ⟨c1, c2⟩ := h82
                have hde := deepOf_in (su := σ (8 + s.toNat) 2) (kd := σ (8 + s.toNat) 3) (h := k - lnL (σ (8 + s.toNat)) (σ 33) (σ 34) (σ 35) (evs (σ 33) (σ 2 4).toNat k.toNat) (σ (8 + s.toNat) 1)) (h.bed (s := s.toNat) (by omega)).2.2.1
                rw [← c2] at hde
                refine R_cV0 hB (s_enter_3 k z82 (by omega) (by omega) (by rw [c1 21 (by decide), r2 21 (by decide) (by decide)]; exact hq.2.1)) mv_X7_307 rfl rfl (by decide) dX7_write_85 rfl rfl (Nat.le_of_ble_eq_true rfl) (fun σ4 h85 => ?_)
                rw [c1 21 (by decide), r2 21 (by decide) (by decide)] at h85
                refine R_iinc hB (j := 5) (L' := [_, _, _, _, _, _]) dX7_write_88 rfl (Nat.le_of_ble_eq_true rfl) rfl ?_
                refine R_goto hB 56 dX7_write_91 rfl ?_
                exact R_sub [1, 2, 3, 4, 5, 0] rfl (ih_56 _ _ (by omega) (by omega) (fun i hi hne => by
                  rw [h85, up_row hne, c1 i (fun q => hi (by simp at q ⊢; omega)), r2 i hi hne]) (fun x => by
                  rw [h85]
                  by_cases c : x = k
                  · rw [c, up_s, if_pos (by omega), c2]; rfl
                  · rw [up_n (fun q => c q.2), c1 52 (by decide), hit x]
                    by_cases c2 : 0 ≤ x ∧ x < k
                    · rw [if_pos c2, if_pos (by omega)]
                    · rw [if_neg c2, if_neg (by omega)]))
          exact R_sub [3, 4, 5, 2, 1, 0] rfl (lp_56 _ _ _ (Nat.lt_succ_self _) (by omega) (fun i _ _ => rfl) (fun x => by rw [if_neg (by omega)]))
        · refine R_aload_n hB (j := 1) dX7_write_36 rfl rfl ?_
          refine R_iconst hB dX7_write_37 ?_
          refine R_cV1 hB (s_found _ (by omega)) mv_X7_237 rfl rfl (by decide) dX7_write_38 rfl rfl (Nat.le_of_ble_eq_true rfl) (fun z38 σ1 h38 => ?_)
          exact R_iret hB hE rfl dX7_write_41 (Or.inr (Or.inl ⟨⟨hy, hz⟩, (by show σ 21 1 = 1; omega), h38.1, h38.2, by rw [h38.2]; exact h.fnd (by omega)⟩))
    · have hno : ¬ ((0 ≤ s ∧ s < σ 0 2) ∧ (0 ≤ t ∧ t < 4)) := by split at h13 <;> omega
      refine R_bipush hB dX7_write_19 rfl ?_
      exact R_iret hB hE rfl dX7_write_21 (Or.inl ⟨hno, rfl, rfl⟩)
