def HearQ (σ σ' : Mem) (hr ho so : Int → Int) (es : List Int) (n : Int) : Prop := Same [5, 6, 44, 45, 46, 47, 48] σ σ' ∧ σ' 6 1 = σ 0 2 ∧ σ' 6 2 = sumN (fun s => cnL (σ (8 + s)) hr ho so 3 (fun _ => true) es (σ (8 + s) 1)) (σ 0 2).toNat ∧ σ' 6 3 = sumN (fun s => cnL (σ (8 + s)) hr ho so 2 (fun _ => true) es (σ (8 + s) 1)) (σ 0 2).toNat ∧
  ∀ s : Nat, (s : Int) < σ 0 2 → σ' 48 s = bsum (fun d => tsL (σ (8 + s)) hr ho so es (σ (8 + s) 1) (σ 25 0) (σ 25 1) (d : Int)) n.toNat
theorem p2_256 : ∀ n : Nat, n ≤ 8 → (2 : Int) ^ n ≤ 256 := by decide

theorem s_hearAll_2 {Θ : Th} {σ : Mem} (hns : 0 ≤ σ 0 2 ∧ σ 0 2 ≤ 8) (hbed : ∀ s : Nat, (s : Int) < σ 0 2 → BedOK (σ (8 + s))) (hw : RowOK (σ 33) (σ 34) (σ 35) (σ 36) (σ 2 4)) (hr : LawOK (σ 25)) : Spc Θ M_X7_hearAll 0 [.ref (Th.r Θ 0), .ref (Th.r Θ 2)] σ (fun _ σ' => HearQ σ σ' (σ 33) (σ 34) (σ 35) (ordL (σ 36) (σ 2 4).toNat) (σ 2 4)) := by
  refine Spc_of (by decide +kernel) (Nat.le_of_ble_eq_true rfl) (fun Γ hB hE => ?_)
  show Run Θ Γ 0 [(0, .ref (Th.r Θ 0)), (1, .ref (Th.r Θ 2))] [] σ
  have hn := hw.1
  refine R_aload_n hB (j := 0) dX7_hearAll_0 rfl rfl ?_
  refine R_getr hB (6) fl_X7_63 dX7_hearAll_1 rfl rfl ?_
  refine R_cV0 hB (s_hopen) mv_X7_159 rfl rfl (by decide) dX7_hearAll_4 rfl rfl (Nat.le_of_ble_eq_true rfl) (fun σ0 h4 => ?_)
  refine R_iconst hB dX7_hearAll_7 ?_
  refine R_istore_n hB (L' := [_, _, _]) dX7_hearAll_8 rfl (Nat.le_of_ble_eq_true rfl) rfl ?_
  have lp_9 : ∀ (n_9 : Nat) (s : Int) (σ1 : Mem), ((σ 0 2 - s).toNat) < n_9 → (0 ≤ s ∧ s ≤ σ 0 2) → (Same [5, 6, 44, 45, 46, 47, 48] σ σ1) → (σ1 6 1 = s) → (σ1 6 2 = sumN (fun s : Nat => cnL (σ (8 + s)) (σ 33) (σ 34) (σ 35) 3 (fun _ => true) (ordL (σ 36) (σ 2 4).toNat) (σ (8 + s) 1)) s.toNat) → (σ1 6 3 = sumN (fun s : Nat => cnL (σ (8 + s)) (σ 33) (σ 34) (σ 35) 2 (fun _ => true) (ordL (σ 36) (σ 2 4).toNat) (σ (8 + s) 1)) s.toNat) → (∀ j : Nat, (j : Int) < s → σ1 48 j = bsum (fun d => tsL (σ (8 + j)) (σ 33) (σ 34) (σ 35) (ordL (σ 36) (σ 2 4).toNat) (σ (8 + j) 1) (σ 25 0) (σ 25 1) (d : Int)) (σ 2 4).toNat) → Run Θ Γ 9 [(0, .ref (Th.r Θ 0)), (1, .ref (Th.r Θ 2)), (2, .int (I s))] [] σ1 := by
    intro n_9
    induction n_9 with
    | zero => intro s σ1 h_m; exact absurd h_m (Nat.not_lt_zero _)
    | succ n_9 ih_9 =>
      intro s σ1 h_m hs hS h61 h62 h63 ht
      have q0 : σ1 0 = σ 0 := hS 0 (by decide)
      have q2 : σ1 2 = σ 2 := hS 2 (by decide)
      have q33 : σ1 33 = σ 33 := hS 33 (by decide)
      have q34 : σ1 34 = σ 34 := hS 34 (by decide)
      have q35 : σ1 35 = σ 35 := hS 35 (by decide)
      have q36 : σ1 36 = σ 36 := hS 36 (by decide)
      have q25 : σ1 25 = σ 25 := hS 25 (by decide)
      refine R_iload_n hB (j := 2) dX7_hearAll_9 rfl rfl ?_
      refine R_aload_n hB (j := 0) dX7_hearAll_10 rfl rfl ?_
      refine R_geti hB fl_X7_118 dX7_hearAll_11 rfl ?_
      refine R_icmp_ge hB 52 (by omega) (by rw [q0]; omega) dX7_hearAll_14 rfl (fun h14 => ?_) (fun h14 => ?_)
      · rw [q0] at h14
        exact R_vret hB hE rfl dX7_hearAll_52 (by
          have hsn : s = σ 0 2 := by omega
          subst hsn
          exact ⟨hS, h61, h62, h63, fun j hj => ht j (by omega)⟩)
      · rw [q0] at h14
        have hz := hbed s.toNat (by omega)
        have qo : σ1 (8 + s.toNat) = σ (8 + s.toNat) := hS _ (by simp; omega)
        refine R_aload_n hB (j := 0) dX7_hearAll_17 rfl rfl ?_
        refine R_getr hB (5) fl_X7_56 dX7_hearAll_18 rfl rfl ?_
        refine R_aload_n hB (j := 0) dX7_hearAll_21 rfl rfl ?_
        refine R_getr hB (23) fl_X7_17 dX7_hearAll_22 rfl rfl ?_
        refine R_iload_n hB (j := 2) dX7_hearAll_25 rfl rfl ?_
        refine R_aald hB (8 + (s).toNat) rfl (by decide) (by omega) rfl dX7_hearAll_26 ?_
        refine R_aload_n hB (j := 1) dX7_hearAll_27 rfl rfl ?_
        refine R_aload_n hB (j := 0) dX7_hearAll_28 rfl rfl ?_
        refine R_getr hB (25) fl_X7_28 dX7_hearAll_29 rfl rfl ?_
        refine R_cV0 hB (s_pass_2 (8 + s.toNat) (cls_bed (by omega)) (by rw [qo]; exact hz) (by rw [q33, q34, q35, q36, q2]; exact hw) (by rw [q25]; exact hr)) mv_X7_162 rfl rfl (by decide) dX7_hearAll_32 rfl rfl (Nat.le_of_ble_eq_true rfl) (fun σ2 h32 => ?_)
        rw [qo, q33, q34, q35, q36, q2, q25] at h32
        obtain ⟨p1, p2, p3, p4, p5, p6⟩ := h32
        have b2 := cnL_in (z := σ (8 + s.toNat)) (hr := σ 33) (ho := σ 34) (so := σ 35) 3 (fun _ => true) (ordL (σ 36) (σ 2 4).toNat) (σ (8 + s.toNat) 1)
        have b3 := cnL_in (z := σ (8 + s.toNat)) (hr := σ 33) (ho := σ 34) (so := σ 35) 2 (fun _ => true) (ordL (σ 36) (σ 2 4).toNat) (σ (8 + s.toNat) 1)
        rw [ordL_len] at b2 b3
        have b4 := bsum_in (fun d => tsL (σ (8 + s.toNat)) (σ 33) (σ 34) (σ 35) (ordL (σ 36) (σ 2 4).toNat) (σ (8 + s.toNat) 1) (σ 25 0) (σ 25 1) (d : Int)) (σ 2 4).toNat
        have b5 := p2_256 (σ 2 4).toNat (by omega)
        have r6 : σ2 6 = σ1 6 := p1 6 (by decide)
        have r48 : σ2 48 = σ1 48 := p1 48 (by decide)
        have m2 := sumN_in (f := (fun s : Nat => cnL (σ (8 + s)) (σ 33) (σ 34) (σ 35) 3 (fun _ => true) (ordL (σ 36) (σ 2 4).toNat) (σ (8 + s) 1))) (n := s.toNat) (m := 8) (fun k hk => by have := cnL_in (z := σ (8 + k)) (hr := σ 33) (ho := σ 34) (so := σ 35) 3 (fun _ => true) (ordL (σ 36) (σ 2 4).toNat) (σ (8 + k) 1); rw [ordL_len] at this; omega)
        have m3 := sumN_in (f := (fun s : Nat => cnL (σ (8 + s)) (σ 33) (σ 34) (σ 35) 2 (fun _ => true) (ordL (σ 36) (σ 2 4).toNat) (σ (8 + s) 1))) (n := s.toNat) (m := 8) (fun k hk => by have := cnL_in (z := σ (8 + k)) (hr := σ 33) (ho := σ 34) (so := σ 35) 2 (fun _ => true) (ordL (σ 36) (σ 2 4).toNat) (σ (8 + k) 1); rw [ordL_len] at this; omega)
        refine R_aload_n hB (j := 0) dX7_hearAll_35 rfl rfl ?_
        refine R_getr hB (6) fl_X7_63 dX7_hearAll_36 rfl rfl ?_
        refine R_aload_n hB (j := 0) dX7_hearAll_39 rfl rfl ?_
        refine R_getr hB (5) fl_X7_56 dX7_hearAll_40 rfl rfl ?_
        refine R_cV0 hB (s_hadd (by rw [r6]; omega) (by rw [r6, h62]; omega) (by rw [r6, h63]; omega) (by rw [p2]; omega) (by rw [p3]; omega) (by rw [p6]; omega)) mv_X7_166 rfl rfl (by decide) dX7_hearAll_43 rfl rfl (Nat.le_of_ble_eq_true rfl) (fun σ3 h43 => ?_)
        obtain ⟨t1, t2, t3, t4, t5, t6⟩ := h43
        rw [r6] at t2 t3 t4 t5
        simp only [r6] at t6
        rw [h61] at t2 t5 t6
        rw [p2, h62] at t3
        rw [p3, h63] at t4
        rw [p6] at t5
        refine R_iinc hB (j := 2) (L' := [_, _, _]) dX7_hearAll_46 rfl (Nat.le_of_ble_eq_true rfl) rfl ?_
        refine R_goto hB 9 dX7_hearAll_49 rfl ?_
        exact R_sub [1, 2, 0] rfl (ih_9 _ _ (by omega) (by omega) ((hS.tr p1 (by simp) (by simp)).tr t1 (fun _ h => h) (by simp)) t2 (by rw [t3, show (s + 1).toNat = s.toNat + 1 by omega]; rfl) (by rw [t4, show (s + 1).toNat = s.toNat + 1 by omega]; rfl) (fun j hj => by
          by_cases c : (j : Int) = s
          · have cj : j = s.toNat := by omega
            subst cj
            rw [c, t5]
          · rw [t6 j c, r48]
            exact ht j (by omega)))
  exact R_sub [1, 2, 0] rfl (lp_9 _ _ _ (Nat.lt_succ_self _) (by omega) (h4.1.wide (by simp)) h4.2.1 h4.2.2.1 h4.2.2.2 (fun j hj => by omega))

theorem s_provenOf_2 {Θ : Th} {σ : Mem} (hn : 0 ≤ σ 2 4 ∧ σ 2 4 ≤ 8) (hr : LawOK (σ 25)) (h1 : 0 ≤ σ 6 1 ∧ σ 6 1 ≤ 8) (ht : ∀ s, 0 ≤ s → s < σ 6 1 → 0 ≤ σ 48 s ∧ σ 48 s < 256) : Spc Θ M_X7_provenOf 1 [.ref (Th.r Θ 0), .ref (Th.r Θ 2)] σ (Pu σ (fun z => z = cnt (fun d : Nat => decide (σ 25 2 ≤ cnt (fun s : Nat => decide (σ 48 (s : Int) / 2 ^ d % 2 = 1)) (σ 6 1).toNat)) (σ 2 4).toNat)) := by
  refine Spc_of (by decide +kernel) (Nat.le_of_ble_eq_true rfl) (fun Γ hB hE => ?_)
  show Run Θ Γ 0 [(0, .ref (Th.r Θ 0)), (1, .ref (Th.r Θ 2))] [] σ
  refine R_aload_n hB (j := 0) dX7_provenOf_0 rfl rfl ?_
  refine R_getr hB (6) fl_X7_63 dX7_provenOf_1 rfl rfl ?_
  refine R_aload_n hB (j := 1) dX7_provenOf_4 rfl rfl ?_
  refine R_geti hB fl_X7_140 dX7_provenOf_5 rfl ?_
  refine R_aload_n hB (j := 0) dX7_provenOf_8 rfl rfl ?_
  refine R_getr hB (25) fl_X7_28 dX7_provenOf_9 rfl rfl ?_
  refine R_iconst hB dX7_provenOf_12 ?_
  refine R_iald hB rfl (by omega) dX7_provenOf_13 ?_
  refine P_cV1 hB (s_provenOf0 _ _ hn (by have := hr.2.2; omega) h1 ht) mv_X7_169 rfl rfl (by decide) dX7_provenOf_14 rfl rfl (Nat.le_of_ble_eq_true rfl) (fun z14 h14 => ?_)
  exact R_iret hB hE rfl dX7_provenOf_17 (⟨rfl, h14⟩)

theorem s_hearAll_3 {Θ : Th} {σ : Mem} (hns : 0 ≤ σ 0 2 ∧ σ 0 2 ≤ 8) (hbed : ∀ s : Nat, (s : Int) < σ 0 2 → BedOK (σ (8 + s))) (hw : RowOK (σ 37) (σ 38) (σ 39) (σ 40) (σ 3 4)) (hr : LawOK (σ 25)) : Spc Θ M_X7_hearAll 0 [.ref (Th.r Θ 0), .ref (Th.r Θ 3)] σ (fun _ σ' => HearQ σ σ' (σ 37) (σ 38) (σ 39) (ordL (σ 40) (σ 3 4).toNat) (σ 3 4)) := by
  refine Spc_of (by decide +kernel) (Nat.le_of_ble_eq_true rfl) (fun Γ hB hE => ?_)
  show Run Θ Γ 0 [(0, .ref (Th.r Θ 0)), (1, .ref (Th.r Θ 3))] [] σ
  have hn := hw.1
  refine R_aload_n hB (j := 0) dX7_hearAll_0 rfl rfl ?_
  refine R_getr hB (6) fl_X7_63 dX7_hearAll_1 rfl rfl ?_
  refine R_cV0 hB (s_hopen) mv_X7_159 rfl rfl (by decide) dX7_hearAll_4 rfl rfl (Nat.le_of_ble_eq_true rfl) (fun σ0 h4 => ?_)
  refine R_iconst hB dX7_hearAll_7 ?_
  refine R_istore_n hB (L' := [_, _, _]) dX7_hearAll_8 rfl (Nat.le_of_ble_eq_true rfl) rfl ?_
  have lp_9 : ∀ (n_9 : Nat) (s : Int) (σ1 : Mem), ((σ 0 2 - s).toNat) < n_9 → (0 ≤ s ∧ s ≤ σ 0 2) → (Same [5, 6, 44, 45, 46, 47, 48] σ σ1) → (σ1 6 1 = s) → (σ1 6 2 = sumN (fun s : Nat => cnL (σ (8 + s)) (σ 37) (σ 38) (σ 39) 3 (fun _ => true) (ordL (σ 40) (σ 3 4).toNat) (σ (8 + s) 1)) s.toNat) → (σ1 6 3 = sumN (fun s : Nat => cnL (σ (8 + s)) (σ 37) (σ 38) (σ 39) 2 (fun _ => true) (ordL (σ 40) (σ 3 4).toNat) (σ (8 + s) 1)) s.toNat) → (∀ j : Nat, (j : Int) < s → σ1 48 j = bsum (fun d => tsL (σ (8 + j)) (σ 37) (σ 38) (σ 39) (ordL (σ 40) (σ 3 4).toNat) (σ (8 + j) 1) (σ 25 0) (σ 25 1) (d : Int)) (σ 3 4).toNat) → Run Θ Γ 9 [(0, .ref (Th.r Θ 0)), (1, .ref (Th.r Θ 3)), (2, .int (I s))] [] σ1 := by
    intro n_9
    induction n_9 with
    | zero => intro s σ1 h_m; exact absurd h_m (Nat.not_lt_zero _)
    | succ n_9 ih_9 =>
      intro s σ1 h_m hs hS h61 h62 h63 ht
      have q0 : σ1 0 = σ 0 := hS 0 (by decide)
      have q3 : σ1 3 = σ 3 := hS 3 (by decide)
      have q37 : σ1 37 = σ 37 := hS 37 (by decide)
      have q38 : σ1 38 = σ 38 := hS 38 (by decide)
      have q39 : σ1 39 = σ 39 := hS 39 (by decide)
      have q40 : σ1 40 = σ 40 := hS 40 (by decide)
      have q25 : σ1 25 = σ 25 := hS 25 (by decide)
      refine R_iload_n hB (j := 2) dX7_hearAll_9 rfl rfl ?_
      refine R_aload_n hB (j := 0) dX7_hearAll_10 rfl rfl ?_
      refine R_geti hB fl_X7_118 dX7_hearAll_11 rfl ?_
      refine R_icmp_ge hB 52 (by omega) (by rw [q0]; omega) dX7_hearAll_14 rfl (fun h14 => ?_) (fun h14 => ?_)
      · rw [q0] at h14
        exact R_vret hB hE rfl dX7_hearAll_52 (by
          have hsn : s = σ 0 2 := by omega
          subst hsn
          exact ⟨hS, h61, h62, h63, fun j hj => ht j (by omega)⟩)
      · rw [q0] at h14
        have hz := hbed s.toNat (by omega)
        have qo : σ1 (8 + s.toNat) = σ (8 + s.toNat) := hS _ (by simp; omega)
        refine R_aload_n hB (j := 0) dX7_hearAll_17 rfl rfl ?_
        refine R_getr hB (5) fl_X7_56 dX7_hearAll_18 rfl rfl ?_
        refine R_aload_n hB (j := 0) dX7_hearAll_21 rfl rfl ?_
        refine R_getr hB (23) fl_X7_17 dX7_hearAll_22 rfl rfl ?_
        refine R_iload_n hB (j := 2) dX7_hearAll_25 rfl rfl ?_
        refine R_aald hB (8 + (s).toNat) rfl (by decide) (by omega) rfl dX7_hearAll_26 ?_
        refine R_aload_n hB (j := 1) dX7_hearAll_27 rfl rfl ?_
        refine R_aload_n hB (j := 0) dX7_hearAll_28 rfl rfl ?_
        refine R_getr hB (25) fl_X7_28 dX7_hearAll_29 rfl rfl ?_
        refine R_cV0 hB (s_pass_3 (8 + s.toNat) (cls_bed (by omega)) (by rw [qo]; exact hz) (by rw [q37, q38, q39, q40, q3]; exact hw) (by rw [q25]; exact hr)) mv_X7_162 rfl rfl (by decide) dX7_hearAll_32 rfl rfl (Nat.le_of_ble_eq_true rfl) (fun σ2 h32 => ?_)
        rw [qo, q37, q38, q39, q40, q3, q25] at h32
        obtain ⟨p1, p2, p3, p4, p5, p6⟩ := h32
        have b2 := cnL_in (z := σ (8 + s.toNat)) (hr := σ 37) (ho := σ 38) (so := σ 39) 3 (fun _ => true) (ordL (σ 40) (σ 3 4).toNat) (σ (8 + s.toNat) 1)
        have b3 := cnL_in (z := σ (8 + s.toNat)) (hr := σ 37) (ho := σ 38) (so := σ 39) 2 (fun _ => true) (ordL (σ 40) (σ 3 4).toNat) (σ (8 + s.toNat) 1)
        rw [ordL_len] at b2 b3
        have b4 := bsum_in (fun d => tsL (σ (8 + s.toNat)) (σ 37) (σ 38) (σ 39) (ordL (σ 40) (σ 3 4).toNat) (σ (8 + s.toNat) 1) (σ 25 0) (σ 25 1) (d : Int)) (σ 3 4).toNat
        have b5 := p2_256 (σ 3 4).toNat (by omega)
        have r6 : σ2 6 = σ1 6 := p1 6 (by decide)
        have r48 : σ2 48 = σ1 48 := p1 48 (by decide)
        have m2 := sumN_in (f := (fun s : Nat => cnL (σ (8 + s)) (σ 37) (σ 38) (σ 39) 3 (fun _ => true) (ordL (σ 40) (σ 3 4).toNat) (σ (8 + s) 1))) (n := s.toNat) (m := 8) (fun k hk => by have := cnL_in (z := σ (8 + k)) (hr := σ 37) (ho := σ 38) (so := σ 39) 3 (fun _ => true) (ordL (σ 40) (σ 3 4).toNat) (σ (8 + k) 1); rw [ordL_len] at this; omega)
        have m3 := sumN_in (f := (fun s : Nat => cnL (σ (8 + s)) (σ 37) (σ 38) (σ 39) 2 (fun _ => true) (ordL (σ 40) (σ 3 4).toNat) (σ (8 + s) 1))) (n := s.toNat) (m := 8) (fun k hk => by have := cnL_in (z := σ (8 + k)) (hr := σ 37) (ho := σ 38) (so := σ 39) 2 (fun _ => true) (ordL (σ 40) (σ 3 4).toNat) (σ (8 + k) 1); rw [ordL_len] at this; omega)
        refine R_aload_n hB (j := 0) dX7_hearAll_35 rfl rfl ?_
        refine R_getr hB (6) fl_X7_63 dX7_hearAll_36 rfl rfl ?_
        refine R_aload_n hB (j := 0) dX7_hearAll_39 rfl rfl ?_
        refine R_getr hB (5) fl_X7_56 dX7_hearAll_40 rfl rfl ?_
        refine R_cV0 hB (s_hadd (by rw [r6]; omega) (by rw [r6, h62]; omega) (by rw [r6, h63]; omega) (by rw [p2]; omega) (by rw [p3]; omega) (by rw [p6]; omega)) mv_X7_166 rfl rfl (by decide) dX7_hearAll_43 rfl rfl (Nat.le_of_ble_eq_true rfl) (fun σ3 h43 => ?_)
        obtain ⟨t1, t2, t3, t4, t5, t6⟩ := h43
        rw [r6] at t2 t3 t4 t5
        simp only [r6] at t6
        rw [h61] at t2 t5 t6
        rw [p2, h62] at t3
        rw [p3, h63] at t4
        rw [p6] at t5
        refine R_iinc hB (j := 2) (L' := [_, _, _]) dX7_hearAll_46 rfl (Nat.le_of_ble_eq_true rfl) rfl ?_
        refine R_goto hB 9 dX7_hearAll_49 rfl ?_
        exact R_sub [1, 2, 0] rfl (ih_9 _ _ (by omega) (by omega) ((hS.tr p1 (by simp) (by simp)).tr t1 (fun _ h => h) (by simp)) t2 (by rw [t3, show (s + 1).toNat = s.toNat + 1 by omega]; rfl) (by rw [t4, show (s + 1).toNat = s.toNat + 1 by omega]; rfl) (fun j hj => by
          by_cases c : (j : Int) = s
          · have cj : j = s.toNat := by omega
            subst cj
            rw [c, t5]
          · rw [t6 j c, r48]
            exact ht j (by omega)))
  exact R_sub [1, 2, 0] rfl (lp_9 _ _ _ (Nat.lt_succ_self _) (by omega) (h4.1.wide (by simp)) h4.2.1 h4.2.2.1 h4.2.2.2 (fun j hj => by omega))

theorem s_provenOf_3 {Θ : Th} {σ : Mem} (hn : 0 ≤ σ 3 4 ∧ σ 3 4 ≤ 8) (hr : LawOK (σ 25)) (h1 : 0 ≤ σ 6 1 ∧ σ 6 1 ≤ 8) (ht : ∀ s, 0 ≤ s → s < σ 6 1 → 0 ≤ σ 48 s ∧ σ 48 s < 256) : Spc Θ M_X7_provenOf 1 [.ref (Th.r Θ 0), .ref (Th.r Θ 3)] σ (Pu σ (fun z => z = cnt (fun d : Nat => decide (σ 25 2 ≤ cnt (fun s : Nat => decide (σ 48 (s : Int) / 2 ^ d % 2 = 1)) (σ 6 1).toNat)) (σ 3 4).toNat)) := by
  refine Spc_of (by decide +kernel) (Nat.le_of_ble_eq_true rfl) (fun Γ hB hE => ?_)
  show Run Θ Γ 0 [(0, .ref (Th.r Θ 0)), (1, .ref (Th.r Θ 3))] [] σ
  refine R_aload_n hB (j := 0) dX7_provenOf_0 rfl rfl ?_
  refine R_getr hB (6) fl_X7_63 dX7_provenOf_1 rfl rfl ?_
  refine R_aload_n hB (j := 1) dX7_provenOf_4 rfl rfl ?_
  refine R_geti hB fl_X7_140 dX7_provenOf_5 rfl ?_
  refine R_aload_n hB (j := 0) dX7_provenOf_8 rfl rfl ?_
  refine R_getr hB (25) fl_X7_28 dX7_provenOf_9 rfl rfl ?_
  refine R_iconst hB dX7_provenOf_12 ?_
  refine R_iald hB rfl (by omega) dX7_provenOf_13 ?_
  refine P_cV1 hB (s_provenOf0 _ _ hn (by have := hr.2.2; omega) h1 ht) mv_X7_169 rfl rfl (by decide) dX7_provenOf_14 rfl rfl (Nat.le_of_ble_eq_true rfl) (fun z14 h14 => ?_)
  exact R_iret hB hE rfl dX7_provenOf_17 (⟨rfl, h14⟩)
