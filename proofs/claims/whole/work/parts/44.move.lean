theorem TSz_cTS (σ : Mem) (s : Nat) (d : Int) : TSz σ (σ (8 + s)) d = cTS σ s d := rfl
theorem mvP_in (σ : Mem) (s h : Nat) : 0 ≤ mvP σ s h ∧ mvP σ s h ≤ (σ 2 4).toNat := cnt_in _ _
theorem fdP_in (σ : Mem) (s h : Nat) : 0 ≤ fdP σ s h ∧ fdP σ s h ≤ (σ 2 4).toNat := cnt_in _ _

theorem s_move {Θ : Th} {σ : Mem} (s w : Int) (hs : rng s) (hwr : rng w) (h : InvC σ) : Spc Θ M_X7_move 1 [.ref (Th.r Θ 0), .int (I s), .int (I w)] σ (fun r σ' => Same SC σ σ' ∧ r = if (0 ≤ s ∧ s < σ 0 2) ∧ (0 ≤ w ∧ w < 2) then (if w = 0 then amx (mvP σ s.toNat) 10 else amv (mvP σ s.toNat) 10) else -2) := by
  refine Spc_of (by decide +kernel) (Nat.le_of_ble_eq_true rfl) (fun Γ hB hE => ?_)
  show Run Θ Γ 0 [(0, .ref (Th.r Θ 0)), (1, .int (I s)), (2, .int (I w))] [] σ
  have hns := h.ns
  have hw := h.row
  have hn := hw.1
  have hr := h.2.2.2.1
  have hr2 := hr.2.2
  refine R_iload_n hB (j := 1) dX7_move_0 rfl rfl ?_
  refine R_aload_n hB (j := 0) dX7_move_1 rfl rfl ?_
  refine R_geti hB fl_X7_118 dX7_move_2 rfl ?_
  refine P_cS1 hB (s_within _ _ (by omega) (by omega)) ms_X7_89 (by decide) dX7_move_5 rfl rfl (Nat.le_of_ble_eq_true rfl) (fun z5 h5 => ?_)
  refine R_if_eq hB 19 (by rw [h5]; split <;> omega) dX7_move_8 rfl (fun h8 => ?_) (fun h8 => ?_)
  · have hno : ¬ ((0 ≤ s ∧ s < σ 0 2) ∧ (0 ≤ w ∧ w < 2)) := by split at h5 <;> omega
    refine R_bipush hB dX7_move_19 rfl ?_
    exact R_iret hB hE rfl dX7_move_21 (⟨Same.rf, by rw [if_neg hno]⟩)
  · have hy : 0 ≤ s ∧ s < σ 0 2 := by split at h5 <;> omega
    refine R_iload_n hB (j := 2) dX7_move_11 rfl rfl ?_
    refine R_iconst hB dX7_move_12 ?_
    refine P_cS1 hB (s_within _ _ (by omega) (by omega)) ms_X7_89 (by decide) dX7_move_13 rfl rfl (Nat.le_of_ble_eq_true rfl) (fun z13 h13 => ?_)
    refine R_if_ne hB 22 (by rw [h13]; split <;> omega) dX7_move_16 rfl (fun h16 => ?_) (fun h16 => ?_)
    · have hz2 : 0 ≤ w ∧ w < 2 := by split at h13 <;> omega
      refine R_aload_n hB (j := 0) dX7_move_22 rfl rfl ?_
      refine R_aload_n hB (j := 0) dX7_move_23 rfl rfl ?_
      refine R_getr hB (2) fl_X7_24 dX7_move_24 rfl rfl ?_
      refine R_cV0 hB (s_hearAll_2 hns (fun s hs => h.bed hs) hw hr) mv_X7_185 rfl rfl (by decide) dX7_move_27 rfl rfl (Nat.le_of_ble_eq_true rfl) (fun σ1 h27 => ?_)
      rw [hw.2.2] at h27
      obtain ⟨j1, j2, j3, j4, j5⟩ := h27
      have k0 : σ1 0 = σ 0 := j1 0 (by decide)
      have k2 : σ1 2 = σ 2 := j1 2 (by decide)
      have k25 : σ1 25 = σ 25 := j1 25 (by decide)
      have h256 := p2_256 (σ 2 4).toNat (by omega)
      have hT : ∀ s : Nat, s < (σ 0 2).toNat → σ1 48 s = bsum (fun d : Nat => cTS σ s (d : Int)) (σ 2 4).toNat := fun s hs => j5 s (by omega)
      have ht : ∀ s, 0 ≤ s → s < σ1 6 1 → 0 ≤ σ1 48 s ∧ σ1 48 s < 256 := fun s q1 q2 => by
        have := hT s.toNat (by omega)
        rw [show ((s.toNat : Nat) : Int) = s by omega] at this
        have hb := bsum_in (fun d : Nat => cTS σ s.toNat (d : Int)) (σ 2 4).toNat
        omega
      have k8 : σ1 (8 + s.toNat) = σ (8 + s.toNat) := j1 _ (by simp; omega)
      have hz := h.bed (s := s.toNat) (by omega)
      refine R_aload_n hB (j := 0) dX7_move_30 rfl rfl ?_
      refine R_getr hB (7) fl_X7_46 dX7_move_31 rfl rfl ?_
      refine R_aload_n hB (j := 0) dX7_move_34 rfl rfl ?_
      refine R_getr hB (23) fl_X7_17 dX7_move_35 rfl rfl ?_
      refine R_iload_n hB (j := 1) dX7_move_38 rfl rfl ?_
      refine R_aald hB (8 + (s).toNat) rfl (by decide) (by omega) rfl dX7_move_39 ?_
      refine R_cV0 hB (s_sbecome (8 + s.toNat) (cls_bed (by omega)) (by omega) (by rw [k8]; exact hz)) mv_X7_214 rfl rfl (by decide) dX7_move_40 rfl rfl (Nat.le_of_ble_eq_true rfl) (fun σ2 h40 => ?_)
      have hb7 := becM_7 σ1 (8 + s.toNat)
      rw [← h40, k8] at hb7
      refine R_iconst hB dX7_move_43 ?_
      refine R_istore_n hB (L' := [_, _, _, _]) dX7_move_44 rfl (Nat.le_of_ble_eq_true rfl) rfl ?_
      refine R_iconst hB dX7_move_45 ?_
      refine R_istore hB (L' := [_, _, _, _, _]) dX7_move_46 (Nat.le_of_ble_eq_true rfl) rfl ?_
      refine R_iconst hB dX7_move_48 ?_
      refine R_istore hB (L' := [_, _, _, _, _, _]) dX7_move_49 (Nat.le_of_ble_eq_true rfl) rfl ?_
      have lp_51 : ∀ (n_51 : Nat) (wh mo hh : Int) (σ3 : Mem), ((10 - hh).toNat) < n_51 → (0 ≤ hh ∧ hh ≤ 10) → (Same SC σ σ3) → (0 < hh → wh = amx (mvP σ s.toNat) hh.toNat) → (mo = amv (mvP σ s.toNat) hh.toNat) → (-1 ≤ mo ∧ mo ≤ 8) → (hh = 0 → mo = -1) → (σ3 7 1 = σ (8 + s.toNat) 1 ∧ σ3 7 2 = σ (8 + s.toNat) 2 ∧ σ3 7 3 = σ (8 + s.toNat) 3) → (σ3 6 1 = σ 0 2) → (∀ j : Nat, j < (σ 0 2).toNat → j ≠ s.toNat → σ3 48 j = bsum (fun d : Nat => cTS σ j (d : Int)) (σ 2 4).toNat) → Run Θ Γ 51 [(0, .ref (Th.r Θ 0)), (1, .int (I s)), (2, .int (I w)), (3, .int (I wh)), (4, .int (I mo)), (5, .int (I hh))] [] σ3 := by
        intro n_51
        induction n_51 with
        | zero => intro wh mo hh σ3 h_m; exact absurd h_m (Nat.not_lt_zero _)
        | succ n_51 ih_51 =>
          intro wh mo hh σ3 h_m hhh hS hb hm hmb hmz hg7 hg61 hT3
          refine R_iload hB (j := 5) dX7_move_51 rfl ?_
          refine R_bipush hB dX7_move_53 rfl ?_
          refine R_icmp_ge hB 132 (by omega) (by omega) dX7_move_55 rfl (fun h55 => ?_) (fun h55 => ?_)
          · have hh10 : hh = 10 := by omega
            subst hh10
            refine R_iload_n hB (j := 2) dX7_move_132 rfl rfl ?_
            refine R_if_ne hB 140 (by omega) dX7_move_133 rfl (fun h133 => ?_) (fun h133 => ?_)
            · refine R_iload hB (j := 4) dX7_move_140 rfl ?_
              exact R_iret hB hE rfl dX7_move_142 (⟨hS, by rw [if_pos ⟨hy, hz2⟩]; first | (rw [if_pos h133]; exact hb (by omega)) | (rw [if_neg h133]; exact hm)⟩)
            · refine R_iload_n hB (j := 3) dX7_move_136 rfl rfl ?_
              refine R_goto hB 142 dX7_move_137 rfl ?_
              exact R_iret hB hE rfl dX7_move_142 (⟨hS, by rw [if_pos ⟨hy, hz2⟩]; first | (rw [if_pos h133]; exact hb (by omega)) | (rw [if_neg h133]; exact hm)⟩)
          · refine R_aload_n hB (j := 0) dX7_move_58 rfl rfl ?_
            refine R_getr hB (7) fl_X7_46 dX7_move_59 rfl rfl ?_
            refine R_iload hB (j := 5) dX7_move_62 rfl ?_
            refine N_puti hB fp_X7_124 dX7_move_64 rfl (by omega) (fun σ4 e4 => ?_)
            have g7 : σ4 7 0 = hh ∧ σ4 7 1 = σ (8 + s.toNat) 1 ∧ σ4 7 2 = σ (8 + s.toNat) 2 ∧ σ4 7 3 = σ (8 + s.toNat) 3 := by
              rw [e4]; refine ⟨up_s _ _ _ _, ?_, ?_, ?_⟩
              · rw [up_n (by decide)]; exact hg7.1
              · rw [up_n (by decide)]; exact hg7.2.1
              · rw [up_n (by decide)]; exact hg7.2.2
            have hbz : BedOK (σ4 7) := by
              rw [BedOK, g7.1, g7.2.1, g7.2.2.1, g7.2.2.2]; exact ⟨by omega, hz.2⟩
            have m2 : σ4 2 = σ 2 := by rw [e4, up_row (by decide)]; exact hS 2 (by decide)
            have m25 : σ4 25 = σ 25 := by rw [e4, up_row (by decide)]; exact hS 25 (by decide)
            have m33 : σ4 33 = σ 33 := by rw [e4, up_row (by decide)]; exact hS 33 (by decide)
            have m34 : σ4 34 = σ 34 := by rw [e4, up_row (by decide)]; exact hS 34 (by decide)
            have m35 : σ4 35 = σ 35 := by rw [e4, up_row (by decide)]; exact hS 35 (by decide)
            have m36 : σ4 36 = σ 36 := by rw [e4, up_row (by decide)]; exact hS 36 (by decide)
            refine R_aload_n hB (j := 0) dX7_move_67 rfl rfl ?_
            refine R_getr hB (5) fl_X7_56 dX7_move_68 rfl rfl ?_
            refine R_aload_n hB (j := 0) dX7_move_71 rfl rfl ?_
            refine R_getr hB (7) fl_X7_46 dX7_move_72 rfl rfl ?_
            refine R_aload_n hB (j := 0) dX7_move_75 rfl rfl ?_
            refine R_getr hB (2) fl_X7_24 dX7_move_76 rfl rfl ?_
            refine R_aload_n hB (j := 0) dX7_move_79 rfl rfl ?_
            refine R_getr hB (25) fl_X7_28 dX7_move_80 rfl rfl ?_
            refine R_cV0 hB (s_pass_2 7 rfl hbz (by rw [m33, m34, m35, m36, m2]; exact hw) (by rw [m25]; exact hr)) mv_X7_162 rfl rfl (by decide) dX7_move_83 rfl rfl (Nat.le_of_ble_eq_true rfl) (fun σ5 h83 => ?_)
            rw [m33, m34, m35, m36, m2, m25, hw.2.2] at h83
            obtain ⟨p1, p2, p3, p4, p5, p6⟩ := h83
            have hT7 : σ5 5 6 = bsum (fun d : Nat => TSz σ (zHo (σ (8 + s.toNat)) hh) (d : Int)) (σ 2 4).toNat := by
              have v := zHo_v (σ (8 + s.toNat)) hh
              have hz9 : σ4 7 0 = zHo (σ (8 + s.toNat)) hh 0 ∧ σ4 7 1 = zHo (σ (8 + s.toNat)) hh 1 ∧ σ4 7 2 = zHo (σ (8 + s.toNat)) hh 2 ∧ σ4 7 3 = zHo (σ (8 + s.toNat)) hh 3 := by rw [v.1, v.2.1, v.2.2.1, v.2.2.2]; exact g7
              have hq9 : σ5 5 6 = bsum (fun d : Nat => TSz σ (σ4 7) (d : Int)) (σ 2 4).toNat := p6
              rw [hq9]
              exact bsum_cg (fun d hd => TSz_cg hz9 _)
            have hbb := bsum_in (fun d : Nat => TSz σ (zHo (σ (8 + s.toNat)) hh) (d : Int)) (σ 2 4).toNat
            rw [← hT7] at hbb
            refine R_aload_n hB (j := 0) dX7_move_86 rfl rfl ?_
            refine R_getr hB (6) fl_X7_63 dX7_move_87 rfl rfl ?_
            refine R_getr hB (48) fl_X7_218 dX7_move_90 rfl rfl ?_
            refine R_iload_n hB (j := 1) dX7_move_93 rfl rfl ?_
            refine R_aload_n hB (j := 0) dX7_move_94 rfl rfl ?_
            refine R_getr hB (5) fl_X7_56 dX7_move_95 rfl rfl ?_
            refine R_geti hB fl_X7_182 dX7_move_98 rfl ?_
            refine N_iast hB rfl (by omega) (by omega) dX7_move_101 (fun σ6 e6 => ?_)
            have n61 : σ6 6 = σ3 6 := by rw [e6, up_row (by decide), p1 6 (by decide), e4, up_row (by decide)]
            have n2 : σ6 2 = σ 2 := by rw [e6, up_row (by decide), p1 2 (by decide), m2]
            have n25 : σ6 25 = σ 25 := by rw [e6, up_row (by decide), p1 25 (by decide), m25]
            have hS6 : Same SC σ σ6 := by
              intro i hi
              have hi' : i ∉ [5, 44, 45, 46, 47] := fun q => hi (by simp at q ⊢; omega)
              rw [e6, up_row (fun q => hi (by simp [q])), p1 i hi', e4, up_row (fun q => hi (by simp [q])), hS i hi]
            have hT6 : ∀ j : Nat, j < (σ 0 2).toNat → σ6 48 j = bsum (fun d : Nat => if j = s.toNat then TSz σ (zHo (σ (8 + s.toNat)) hh) (d : Int) else cTS σ j (d : Int)) (σ 2 4).toNat := fun j hj => by
              rw [e6]
              by_cases c : j = s.toNat
              · subst c
                rw [show ((s.toNat : Nat) : Int) = s by omega, up_s, hT7]
                simp
              · rw [up_n (by omega), p1 48 (by decide), e4, up_row (by decide), hT3 j hj c]
                simp only [c, if_false]
            have ht6 : ∀ x, 0 ≤ x → x < σ6 6 1 → 0 ≤ σ6 48 x ∧ σ6 48 x < 256 := fun x q1 q2 => by
              rw [n61, hg61] at q2
              have := hT6 x.toNat (by omega)
              rw [show ((x.toNat : Nat) : Int) = x by omega] at this
              have hb := bsum_in (fun d : Nat => if x.toNat = s.toNat then TSz σ (zHo (σ (8 + s.toNat)) hh) (d : Int) else cTS σ x.toNat (d : Int)) (σ 2 4).toNat
              omega
            refine R_aload_n hB (j := 0) dX7_move_102 rfl rfl ?_
            refine R_aload_n hB (j := 0) dX7_move_103 rfl rfl ?_
            refine R_getr hB (2) fl_X7_24 dX7_move_104 rfl rfl ?_
            refine P_cV1 hB (s_provenOf_2 (by rw [n2]; exact hn) (by rw [n25]; exact hr) (by rw [n61, hg61]; exact hns) ht6) mv_X7_221 rfl rfl (by decide) dX7_move_107 rfl rfl (Nat.le_of_ble_eq_true rfl) (fun z107 h107 => ?_)
            rw [n2, n25, n61, hg61] at h107
            have hP : z107 = mvP σ s.toNat hh.toNat := by
              rw [h107]
              refine cnt_cg (fun d hd => ?_)
              rw [wit_cnt (σ := σ) hT6 hd, show ((hh.toNat : Nat) : Int) = hh by omega]
            have hPb := mvP_in σ s.toNat hh.toNat
            rw [← hP] at hPb
            have hA := am_step (f := mvP σ s.toNat) (fun k => (mvP_in σ s.toNat k).1) rfl hm hP
            rw [show ((hh.toNat : Nat) : Int) = hh by omega, show hh.toNat + 1 = (hh + 1).toNat by omega] at hA
            refine R_istore hB (L' := [_, _, _, _, _, _, _]) dX7_move_110 (Nat.le_of_ble_eq_true rfl) rfl ?_
            refine R_iload hB (j := 0) dX7_move_112 rfl ?_
            refine R_iload hB (j := 5) dX7_move_114 rfl ?_
            refine R_icmp_le hB 126 (by omega) (by omega) dX7_move_116 rfl (fun h116 => ?_) (fun h116 => ?_)
            · have hB2 := hA.2 h116
              refine R_iinc hB (j := 6) (L' := [_, _, _, _, _, _, _]) dX7_move_126 rfl (Nat.le_of_ble_eq_true rfl) rfl ?_
              refine R_goto hB 51 dX7_move_129 rfl ?_
              exact R_sub [2, 3, 4, 5, 6, 0] rfl (ih_51 _ _ _ _ (by omega) (by omega) hS6 (fun _ => by first | exact hB2.1 | (have c := hmz; by_cases q : hh = 0; (have := c q; omega); (rw [hb (by omega)]; exact hB2.1))) hB2.2 (by omega) (fun q => by omega) (by rw [e6, up_row (by decide), p1 7 (by decide)]; exact g7.2) (by rw [n61]; exact hg61) (fun j hj c => by rw [hT6 j hj]; simp only [c, if_false]))
            · have hB2 := hA.1 h116
              refine R_iload hB (j := 0) dX7_move_119 rfl ?_
              refine R_istore hB (L' := [_, _, _, _, _, _, _]) dX7_move_121 (Nat.le_of_ble_eq_true rfl) rfl ?_
              refine R_iload hB (j := 6) dX7_move_123 rfl ?_
              refine R_istore_n hB (L' := [_, _, _, _, _, _, _]) dX7_move_125 rfl (Nat.le_of_ble_eq_true rfl) rfl ?_
              refine R_iinc hB (j := 6) (L' := [_, _, _, _, _, _, _]) dX7_move_126 rfl (Nat.le_of_ble_eq_true rfl) rfl ?_
              refine R_goto hB 51 dX7_move_129 rfl ?_
              exact R_sub [4, 5, 6, 1, 2, 0] rfl (ih_51 _ _ _ _ (by omega) (by omega) hS6 (fun _ => by first | exact hB2.1 | (have c := hmz; by_cases q : hh = 0; (have := c q; omega); (rw [hb (by omega)]; exact hB2.1))) hB2.2 (by omega) (fun q => by omega) (by rw [e6, up_row (by decide), p1 7 (by decide)]; exact g7.2) (by rw [n61]; exact hg61) (fun j hj c => by rw [hT6 j hj]; simp only [c, if_false]))
      exact R_sub [3, 4, 5, 2, 1, 0] rfl (lp_51 _ _ _ _ _ (Nat.lt_succ_self _) (by omega) (fun i hi => by
        have hi2 : i ∉ [5, 6, 44, 45, 46, 47, 48] := fun q => hi (by simp at q ⊢; omega)
        rw [h40, becM_row _ _ (fun q => hi (by simp [q])), j1 i hi2]) (fun q => by omega) rfl (by omega) (fun _ => rfl) ⟨hb7.2.1, hb7.2.2.1, hb7.2.2.2⟩ (by rw [h40, becM_row _ _ (by decide), j2]) (fun j hj _ => by rw [h40, becM_row _ _ (by decide)]; exact hT j hj))
    · have hno : ¬ ((0 ≤ s ∧ s < σ 0 2) ∧ (0 ≤ w ∧ w < 2)) := by split at h13 <;> omega
      refine R_bipush hB dX7_move_19 rfl ?_
      exact R_iret hB hE rfl dX7_move_21 (⟨Same.rf, by rw [if_neg hno]⟩)

theorem s_feed {Θ : Th} {σ : Mem} (s w : Int) (hs : rng s) (hwr : rng w) (h : InvC σ) : Spc Θ M_X7_feed 1 [.ref (Th.r Θ 0), .int (I s), .int (I w)] σ (fun r σ' => Same SC σ σ' ∧ r = if (0 ≤ s ∧ s < σ 0 2) ∧ (0 ≤ w ∧ w < 2) then (if w = 0 then amx (fdP σ s.toNat) 4 else amv (fdP σ s.toNat) 4) else -2) := by
  refine Spc_of (by decide +kernel) (Nat.le_of_ble_eq_true rfl) (fun Γ hB hE => ?_)
  show Run Θ Γ 0 [(0, .ref (Th.r Θ 0)), (1, .int (I s)), (2, .int (I w))] [] σ
  have hns := h.ns
  have hw := h.row
  have hn := hw.1
  have hr := h.2.2.2.1
  refine R_iload_n hB (j := 1) dX7_feed_0 rfl rfl ?_
  refine R_aload_n hB (j := 0) dX7_feed_1 rfl rfl ?_
  refine R_geti hB fl_X7_118 dX7_feed_2 rfl ?_
  refine P_cS1 hB (s_within _ _ (by omega) (by omega)) ms_X7_89 (by decide) dX7_feed_5 rfl rfl (Nat.le_of_ble_eq_true rfl) (fun z5 h5 => ?_)
  refine R_if_eq hB 19 (by rw [h5]; split <;> omega) dX7_feed_8 rfl (fun h8 => ?_) (fun h8 => ?_)
  · have hno : ¬ ((0 ≤ s ∧ s < σ 0 2) ∧ (0 ≤ w ∧ w < 2)) := by split at h5 <;> omega
    refine R_bipush hB dX7_feed_19 rfl ?_
    exact R_iret hB hE rfl dX7_feed_21 (⟨Same.rf, by rw [if_neg hno]⟩)
  · have hy : 0 ≤ s ∧ s < σ 0 2 := by split at h5 <;> omega
    refine R_iload_n hB (j := 2) dX7_feed_11 rfl rfl ?_
    refine R_iconst hB dX7_feed_12 ?_
    refine P_cS1 hB (s_within _ _ (by omega) (by omega)) ms_X7_89 (by decide) dX7_feed_13 rfl rfl (Nat.le_of_ble_eq_true rfl) (fun z13 h13 => ?_)
    refine R_if_ne hB 22 (by rw [h13]; split <;> omega) dX7_feed_16 rfl (fun h16 => ?_) (fun h16 => ?_)
    · have hz2 : 0 ≤ w ∧ w < 2 := by split at h13 <;> omega
      have hz := h.bed (s := s.toNat) (by omega)
      refine R_aload_n hB (j := 0) dX7_feed_22 rfl rfl ?_
      refine R_getr hB (7) fl_X7_46 dX7_feed_23 rfl rfl ?_
      refine R_aload_n hB (j := 0) dX7_feed_26 rfl rfl ?_
      refine R_getr hB (23) fl_X7_17 dX7_feed_27 rfl rfl ?_
      refine R_iload_n hB (j := 1) dX7_feed_30 rfl rfl ?_
      refine R_aald hB (8 + (s).toNat) rfl (by decide) (by omega) rfl dX7_feed_31 ?_
      refine R_cV0 hB (s_sbecome (8 + s.toNat) (cls_bed (by omega)) (by omega) hz) mv_X7_214 rfl rfl (by decide) dX7_feed_32 rfl rfl (Nat.le_of_ble_eq_true rfl) (fun σ2 h32 => ?_)
      have hb7 := becM_7 σ (8 + s.toNat)
      rw [← h32] at hb7
      refine R_iconst hB dX7_feed_35 ?_
      refine R_istore_n hB (L' := [_, _, _, _]) dX7_feed_36 rfl (Nat.le_of_ble_eq_true rfl) rfl ?_
      refine R_iconst hB dX7_feed_37 ?_
      refine R_istore hB (L' := [_, _, _, _, _]) dX7_feed_38 (Nat.le_of_ble_eq_true rfl) rfl ?_
      refine R_iconst hB dX7_feed_40 ?_
      refine R_istore hB (L' := [_, _, _, _, _, _]) dX7_feed_41 (Nat.le_of_ble_eq_true rfl) rfl ?_
      have lp_43 : ∀ (n_43 : Nat) (wh mo hh : Int) (σ3 : Mem), ((4 - hh).toNat) < n_43 → (0 ≤ hh ∧ hh ≤ 4) → (Same SC σ σ3) → (0 < hh → wh = amx (fdP σ s.toNat) hh.toNat) → (mo = amv (fdP σ s.toNat) hh.toNat) → (-1 ≤ mo ∧ mo ≤ 8) → (hh = 0 → mo = -1) → (σ3 7 0 = σ (8 + s.toNat) 0 ∧ σ3 7 1 = σ (8 + s.toNat) 1 ∧ σ3 7 3 = σ (8 + s.toNat) 3) → Run Θ Γ 43 [(0, .ref (Th.r Θ 0)), (1, .int (I s)), (2, .int (I w)), (3, .int (I wh)), (4, .int (I mo)), (5, .int (I hh))] [] σ3 := by
        intro n_43
        induction n_43 with
        | zero => intro wh mo hh σ3 h_m; exact absurd h_m (Nat.not_lt_zero _)
        | succ n_43 ih_43 =>
          intro wh mo hh σ3 h_m hhh hS hb hm hmb hmz hg7
          refine R_iload hB (j := 5) dX7_feed_43 rfl ?_
          refine R_iconst hB dX7_feed_45 ?_
          refine R_icmp_ge hB 109 (by omega) (by omega) dX7_feed_46 rfl (fun h46 => ?_) (fun h46 => ?_)
          · have hh10 : hh = 4 := by omega
            subst hh10
            refine R_iload_n hB (j := 2) dX7_feed_109 rfl rfl ?_
            refine R_if_ne hB 117 (by omega) dX7_feed_110 rfl (fun h110 => ?_) (fun h110 => ?_)
            · refine R_iload hB (j := 4) dX7_feed_117 rfl ?_
              exact R_iret hB hE rfl dX7_feed_119 (⟨hS, by rw [if_pos ⟨hy, hz2⟩]; first | (rw [if_pos h110]; exact hb (by omega)) | (rw [if_neg h110]; exact hm)⟩)
            · refine R_iload_n hB (j := 3) dX7_feed_113 rfl rfl ?_
              refine R_goto hB 119 dX7_feed_114 rfl ?_
              exact R_iret hB hE rfl dX7_feed_119 (⟨hS, by rw [if_pos ⟨hy, hz2⟩]; first | (rw [if_pos h110]; exact hb (by omega)) | (rw [if_neg h110]; exact hm)⟩)
          · refine R_aload_n hB (j := 0) dX7_feed_49 rfl rfl ?_
            refine R_getr hB (7) fl_X7_46 dX7_feed_50 rfl rfl ?_
            refine R_iload hB (j := 5) dX7_feed_53 rfl ?_
            refine N_puti hB fp_X7_130 dX7_feed_55 rfl (by omega) (fun σ4 e4 => ?_)
            have g7 : σ4 7 0 = σ (8 + s.toNat) 0 ∧ σ4 7 1 = σ (8 + s.toNat) 1 ∧ σ4 7 2 = hh ∧ σ4 7 3 = σ (8 + s.toNat) 3 := by
              rw [e4]; refine ⟨?_, ?_, up_s _ _ _ _, ?_⟩
              · rw [up_n (by decide)]; exact hg7.1
              · rw [up_n (by decide)]; exact hg7.2.1
              · rw [up_n (by decide)]; exact hg7.2.2
            have hbz : BedOK (σ4 7) := by
              rw [BedOK, g7.1, g7.2.1, g7.2.2.1, g7.2.2.2]; exact ⟨hz.1, hz.2.1, by omega, hz.2.2.2⟩
            have h256 := p2_256 (σ 2 4).toNat (by omega)
            have m2 : σ4 2 = σ 2 := by rw [e4, up_row (by decide)]; exact hS 2 (by decide)
            have m25 : σ4 25 = σ 25 := by rw [e4, up_row (by decide)]; exact hS 25 (by decide)
            have m33 : σ4 33 = σ 33 := by rw [e4, up_row (by decide)]; exact hS 33 (by decide)
            have m34 : σ4 34 = σ 34 := by rw [e4, up_row (by decide)]; exact hS 34 (by decide)
            have m35 : σ4 35 = σ 35 := by rw [e4, up_row (by decide)]; exact hS 35 (by decide)
            have m36 : σ4 36 = σ 36 := by rw [e4, up_row (by decide)]; exact hS 36 (by decide)
            refine R_aload_n hB (j := 0) dX7_feed_58 rfl rfl ?_
            refine R_getr hB (5) fl_X7_56 dX7_feed_59 rfl rfl ?_
            refine R_aload_n hB (j := 0) dX7_feed_62 rfl rfl ?_
            refine R_getr hB (7) fl_X7_46 dX7_feed_63 rfl rfl ?_
            refine R_aload_n hB (j := 0) dX7_feed_66 rfl rfl ?_
            refine R_getr hB (2) fl_X7_24 dX7_feed_67 rfl rfl ?_
            refine R_aload_n hB (j := 0) dX7_feed_70 rfl rfl ?_
            refine R_getr hB (25) fl_X7_28 dX7_feed_71 rfl rfl ?_
            refine R_cV0 hB (s_pass_2 7 rfl hbz (by rw [m33, m34, m35, m36, m2]; exact hw) (by rw [m25]; exact hr)) mv_X7_162 rfl rfl (by decide) dX7_feed_74 rfl rfl (Nat.le_of_ble_eq_true rfl) (fun σ5 h74 => ?_)
            rw [m33, m34, m35, m36, m2, m25, hw.2.2] at h74
            obtain ⟨p1, p2, p3, p4, p5, p6⟩ := h74
            have hT7 : σ5 5 6 = bsum (fun d : Nat => TSz σ (zSu (σ (8 + s.toNat)) hh) (d : Int)) (σ 2 4).toNat := by
              have v := zSu_v (σ (8 + s.toNat)) hh
              have hz9 : σ4 7 0 = zSu (σ (8 + s.toNat)) hh 0 ∧ σ4 7 1 = zSu (σ (8 + s.toNat)) hh 1 ∧ σ4 7 2 = zSu (σ (8 + s.toNat)) hh 2 ∧ σ4 7 3 = zSu (σ (8 + s.toNat)) hh 3 := by rw [v.1, v.2.1, v.2.2.1, v.2.2.2]; exact g7
              have hq9 : σ5 5 6 = bsum (fun d : Nat => TSz σ (σ4 7) (d : Int)) (σ 2 4).toNat := p6
              rw [hq9]
              exact bsum_cg (fun d hd => TSz_cg hz9 _)
            have hbb := bsum_in (fun d : Nat => TSz σ (zSu (σ (8 + s.toNat)) hh) (d : Int)) (σ 2 4).toNat
            have hS5 : Same SC σ σ5 := by
              intro i hi
              have hi' : i ∉ [5, 44, 45, 46, 47] := fun q => hi (by simp at q ⊢; omega)
              rw [p1 i hi', e4, up_row (fun q => hi (by simp [q])), hS i hi]
            refine R_aload_n hB (j := 0) dX7_feed_77 rfl rfl ?_
            refine R_getr hB (5) fl_X7_56 dX7_feed_78 rfl rfl ?_
            refine R_geti hB fl_X7_182 dX7_feed_81 rfl ?_
            refine P_cS1 hB (s_bitCount _ (by rw [hT7]; omega)) ms_X7_192 (by decide) dX7_feed_84 rfl rfl (Nat.le_of_ble_eq_true rfl) (fun z84 h84 => ?_)
            rw [hT7, pc8_bsum _ (by omega)] at h84
            have hP : z84 = fdP σ s.toNat hh.toNat := by
              rw [h84]; unfold fdP; rw [show ((hh.toNat : Nat) : Int) = hh by omega]
            have hPb := fdP_in σ s.toNat hh.toNat
            rw [← hP] at hPb
            have hA := am_step (f := fdP σ s.toNat) (fun k => (fdP_in σ s.toNat k).1) rfl hm hP
            rw [show ((hh.toNat : Nat) : Int) = hh by omega, show hh.toNat + 1 = (hh + 1).toNat by omega] at hA
            refine R_istore hB (L' := [_, _, _, _, _, _, _]) dX7_feed_87 (Nat.le_of_ble_eq_true rfl) rfl ?_
            refine R_iload hB (j := 0) dX7_feed_89 rfl ?_
            refine R_iload hB (j := 5) dX7_feed_91 rfl ?_
            refine R_icmp_le hB 103 (by omega) (by omega) dX7_feed_93 rfl (fun h93 => ?_) (fun h93 => ?_)
            · have hB2 := hA.2 h93
              refine R_iinc hB (j := 6) (L' := [_, _, _, _, _, _, _]) dX7_feed_103 rfl (Nat.le_of_ble_eq_true rfl) rfl ?_
              refine R_goto hB 43 dX7_feed_106 rfl ?_
              exact R_sub [2, 3, 4, 5, 6, 0] rfl (ih_43 _ _ _ _ (by omega) (by omega) hS5 (fun _ => by first | exact hB2.1 | (have c := hmz; by_cases q : hh = 0; (have := c q; omega); (rw [hb (by omega)]; exact hB2.1))) hB2.2 (by omega) (fun q => by omega) (by rw [p1 7 (by decide)]; exact ⟨g7.1, g7.2.1, g7.2.2.2⟩))
            · have hB2 := hA.1 h93
              refine R_iload hB (j := 0) dX7_feed_96 rfl ?_
              refine R_istore hB (L' := [_, _, _, _, _, _, _]) dX7_feed_98 (Nat.le_of_ble_eq_true rfl) rfl ?_
              refine R_iload hB (j := 6) dX7_feed_100 rfl ?_
              refine R_istore_n hB (L' := [_, _, _, _, _, _, _]) dX7_feed_102 rfl (Nat.le_of_ble_eq_true rfl) rfl ?_
              refine R_iinc hB (j := 6) (L' := [_, _, _, _, _, _, _]) dX7_feed_103 rfl (Nat.le_of_ble_eq_true rfl) rfl ?_
              refine R_goto hB 43 dX7_feed_106 rfl ?_
              exact R_sub [4, 5, 6, 1, 2, 0] rfl (ih_43 _ _ _ _ (by omega) (by omega) hS5 (fun _ => by first | exact hB2.1 | (have c := hmz; by_cases q : hh = 0; (have := c q; omega); (rw [hb (by omega)]; exact hB2.1))) hB2.2 (by omega) (fun q => by omega) (by rw [p1 7 (by decide)]; exact ⟨g7.1, g7.2.1, g7.2.2.2⟩))
      exact R_sub [3, 4, 5, 2, 1, 0] rfl (lp_43 _ _ _ _ _ (Nat.lt_succ_self _) (by omega) (fun i hi => by rw [h32, becM_row _ _ (fun q => hi (by simp [q]))]) (fun q => by omega) rfl (by omega) (fun _ => rfl) ⟨hb7.1, hb7.2.1, hb7.2.2.2⟩)
    · have hno : ¬ ((0 ≤ s ∧ s < σ 0 2) ∧ (0 ≤ w ∧ w < 2)) := by split at h13 <;> omega
      refine R_bipush hB dX7_feed_19 rfl ?_
      exact R_iret hB hE rfl dX7_feed_21 (⟨Same.rf, by rw [if_neg hno]⟩)
