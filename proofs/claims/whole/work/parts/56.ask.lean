theorem s_mostAlike {Θ : Th} {σ : Mem} (s : Int) (hs : 0 ≤ s ∧ s < σ 0 2) (p : Nat → Bool) (op : Int) (hop : op = bsum p (σ 2 4).toNat) (h : InvC σ) : Spc Θ M_X7_mostAlike 1 [.ref (Th.r Θ 0), .int (I s), .int (I op)] σ (fun r σ' => Same SC σ σ' ∧ r = mAl p (mkW σ s.toNat) (σ 2 4).toNat) := by
  refine Spc_of (by decide +kernel) (Nat.le_of_ble_eq_true rfl) (fun Γ hB hE => ?_)
  show Run Θ Γ 0 [(0, .ref (Th.r Θ 0)), (1, .int (I s)), (2, .int (I op))] [] σ
  have hns := h.ns
  have hw := h.row
  have hn := hw.1
  have hr := h.2.2.2.1
  have hbs := bsum_in p (σ 2 4).toNat
  rw [← hop] at hbs
  have h256 := p2_256 (σ 2 4).toNat (by omega)
  refine R_aload_n hB (j := 0) dX7_mostAlike_0 rfl rfl ?_
  refine R_getr hB (27) fl_X7_71 dX7_mostAlike_1 rfl rfl ?_
  refine R_iconst hB dX7_mostAlike_4 ?_
  refine R_cS0 hB (s_fill 27 9 _ (by omega) rfl) ms_X7_267 (by decide) dX7_mostAlike_5 rfl rfl (Nat.le_of_ble_eq_true rfl) (fun σ0 h5 => ?_)
  refine R_iconst hB dX7_mostAlike_8 ?_
  refine R_istore_n hB (L' := [_, _, _, _]) dX7_mostAlike_9 rfl (Nat.le_of_ble_eq_true rfl) rfl ?_
  refine R_iconst hB dX7_mostAlike_10 ?_
  refine R_istore hB (L' := [_, _, _, _, _]) dX7_mostAlike_11 (Nat.le_of_ble_eq_true rfl) rfl ?_
  have lp_13 : ∀ (n_13 : Nat) (mo d : Int) (σ1 : Mem), ((σ 2 4 - d).toNat) < n_13 → (0 ≤ d ∧ d ≤ σ 2 4) → (Same SC σ σ1) → (mo = mAl p (mkW σ s.toNat) d.toNat) → (0 ≤ mo ∧ mo ≤ 8) → (∀ m, 0 ≤ m → m < 9 → σ1 27 m = cnt (fun j => p j && decide (mkW σ s.toNat j = m)) d.toNat) → Run Θ Γ 13 [(0, .ref (Th.r Θ 0)), (1, .int (I s)), (2, .int (I op)), (3, .int (I mo)), (4, .int (I d))] [] σ1 := by
    intro n_13
    induction n_13 with
    | zero => intro mo d σ1 h_m; exact absurd h_m (Nat.not_lt_zero _)
    | succ n_13 ih_13 =>
      intro mo d σ1 h_m hd hS hmo hmob hal
      have k2 : σ1 2 = σ 2 := hS 2 (by decide)
      have k33 : σ1 33 = σ 33 := hS 33 (by decide)
      have k34 : σ1 34 = σ 34 := hS 34 (by decide)
      have k35 : σ1 35 = σ 35 := hS 35 (by decide)
      have k36 : σ1 36 = σ 36 := hS 36 (by decide)
      refine R_iload hB (j := 4) dX7_mostAlike_13 rfl ?_
      refine R_aload_n hB (j := 0) dX7_mostAlike_15 rfl rfl ?_
      refine R_getr hB (2) fl_X7_24 dX7_mostAlike_16 rfl rfl ?_
      refine R_geti hB fl_X7_140 dX7_mostAlike_19 rfl ?_
      refine R_icmp_ge hB 107 (by omega) (by rw [k2]; omega) dX7_mostAlike_22 rfl (fun h22 => ?_) (fun h22 => ?_)
      · rw [k2] at h22
        refine R_iload_n hB (j := 3) dX7_mostAlike_107 rfl rfl ?_
        exact R_iret hB hE rfl dX7_mostAlike_108 (⟨hS, by rw [hmo]; congr 1; omega⟩)
      · rw [k2] at h22
        have hbit := bsum_bit p (show d.toNat < (σ 2 4).toNat by omega)
        rw [← hop] at hbit
        have kb : σ1 (8 + s.toNat) = σ (8 + s.toNat) := hS _ (by simp; omega)
        refine R_iload_n hB (j := 2) dX7_mostAlike_25 rfl rfl ?_
        refine R_iload hB (j := 4) dX7_mostAlike_26 rfl ?_
        refine R_ishr hB ((op) / 2 ^ (d).toNat) (i_shr (by omega) (by omega)) dX7_mostAlike_28 ?_
        refine R_iconst hB dX7_mostAlike_29 ?_
        refine R_iand hB (((op) / 2 ^ (d).toNat) % 2) i_and1 dX7_mostAlike_30 ?_
        refine R_if_eq hB 101 (by omega) dX7_mostAlike_31 rfl (fun h31 => ?_) (fun h31 => ?_)
        · have hp : p d.toNat = false := by
            cases q : p d.toNat with
            | false => rfl
            | true => rw [q] at hbit; simp at hbit; omega
          refine R_iinc hB (j := 4) (L' := [_, _, _, _, _]) dX7_mostAlike_101 rfl (Nat.le_of_ble_eq_true rfl) rfl ?_
          refine R_goto hB 13 dX7_mostAlike_104 rfl ?_
          exact R_sub [1, 2, 3, 4, 0] rfl (ih_13 _ _ _ (by omega) (by omega) (by first | exact hS | exact (hS2.tr p1 (fun _ q => q) (by simp)).tr (S' := SC) (by rw [e4]; exact Same.up (by decide)) (fun _ q => q) (fun _ q => q)) (by
            rw [show (d + 1).toNat = d.toNat + 1 by omega]
            simp only [mAl]
            first
            | (rw [hp, if_neg (by decide)]; exact hmo)
            | (rw [if_pos hp, ← hmo, k54, hv4])) (by
            first
            | exact hmob
            | (rw [k54, hv4]
               have := cnt_in (fun j => p j && decide (mkW σ s.toNat j = mkW σ s.toNat d.toNat)) (d.toNat + 1)
               omega)) (fun m q1 q2 => by
            rw [show (d + 1).toNat = d.toNat + 1 by omega]
            first
            | (rw [cnt_f (by simp [hp])]; exact hal m q1 q2)
            | (rw [e4]
               by_cases c : m = σ3 5 4
               · rw [c, up_s, k27, ha, cnt_t (by simp [hp, hm])]
               · rw [up_n (fun q => c q.2), k27, hal m q1 q2, cnt_f (by simp only [hp, Bool.true_and, decide_eq_false_iff_not]; rw [← hm]; exact fun q => c q.symm)])))
        · have hp : p d.toNat = true := by
            cases q : p d.toNat with
            | true => rfl
            | false => rw [q] at hbit; simp at hbit; omega
          refine R_aload_n hB (j := 0) dX7_mostAlike_34 rfl rfl ?_
          refine R_getr hB (3) fl_X7_50 dX7_mostAlike_35 rfl rfl ?_
          refine R_aload_n hB (j := 0) dX7_mostAlike_38 rfl rfl ?_
          refine R_getr hB (2) fl_X7_24 dX7_mostAlike_39 rfl rfl ?_
          refine R_iload hB (j := 4) dX7_mostAlike_42 rfl ?_
          refine R_cV0 hB (s_dbecome d (by omega) (by rw [k33, k34, k35, k36, k2]; exact hw)) mv_X7_254 rfl rfl (by decide) dX7_mostAlike_44 rfl rfl (Nat.le_of_ble_eq_true rfl) (fun σ2 h44 => ?_)
          rw [k2] at h44
          simp only [k33, k34, k35] at h44
          obtain ⟨b1, b2, b3, b4⟩ := h44
          rw [if_pos (by omega)] at b2
          have hS2 : Same SC σ σ2 := hS.tr b1 (fun _ q => q) (by simp)
          have kb2 : σ2 (8 + s.toNat) = σ (8 + s.toNat) := hS2 _ (by simp; omega)
          have k252 : σ2 25 = σ 25 := hS2 25 (by decide)
          refine R_aload_n hB (j := 0) dX7_mostAlike_47 rfl rfl ?_
          refine R_getr hB (5) fl_X7_56 dX7_mostAlike_48 rfl rfl ?_
          refine R_aload_n hB (j := 0) dX7_mostAlike_51 rfl rfl ?_
          refine R_getr hB (23) fl_X7_17 dX7_mostAlike_52 rfl rfl ?_
          refine R_iload_n hB (j := 1) dX7_mostAlike_55 rfl rfl ?_
          refine R_aald hB (8 + (s).toNat) rfl (by decide) (by omega) rfl dX7_mostAlike_56 ?_
          refine R_aload_n hB (j := 0) dX7_mostAlike_57 rfl rfl ?_
          refine R_getr hB (3) fl_X7_50 dX7_mostAlike_58 rfl rfl ?_
          refine R_aload_n hB (j := 0) dX7_mostAlike_61 rfl rfl ?_
          refine R_getr hB (25) fl_X7_28 dX7_mostAlike_62 rfl rfl ?_
          refine R_cV0 hB (s_pass_3 (8 + s.toNat) (cls_bed (by omega)) (by rw [kb2]; exact h.bed (by omega)) b3 (by rw [k252]; exact hr)) mv_X7_162 rfl rfl (by decide) dX7_mostAlike_65 rfl rfl (Nat.le_of_ble_eq_true rfl) (fun σ3 h65 => ?_)
          rw [kb2, b3.2.2, b2] at h65
          obtain ⟨p1, p2, p3, p4, p5, p6⟩ := h65
          have ev : evs (σ2 37) (σ 2 4 - 1).toNat 50 = evs (fun i => σ 33 (phi d i)) (σ 2 4 - 1).toNat 50 := evs_cg (fun i q1 q2 => (b4 i q1 (by omega)).1) 50
          have hm : σ3 5 4 = mkW σ s.toNat d.toNat := by
            have hz := (night_map (z := σ (8 + s.toNat)) (z' := σ (8 + s.toNat)) (hr := fun i => σ 33 (phi d i)) (hr' := σ2 37) (ho := fun i => σ 34 (phi d i)) (ho' := σ2 38) (so := fun i => σ 35 (phi d i)) (so' := σ2 39) (fun e => e) (es := evs (fun i => σ 33 (phi d i)) (σ 2 4 - 1).toNat 50) ⟨rfl, rfl, rfl, rfl⟩ (fun e he => by have := (evs_mem.mp he).1; exact b4 e this.1 (by omega)) (σ (8 + s.toNat) 1)).2 3 (fun _ => true) (fun _ => true) (fun _ _ => rfl)
            rw [p2, ev, hz]
            unfold mkW
            rw [show ((d.toNat : Nat) : Int) = d by omega, show (σ 2 4).toNat - 1 = (σ 2 4 - 1).toNat by omega]
            simp
          have hmb := mkW_in σ s.toNat d.toNat hn
          rw [← hm] at hmb
          have k27 : σ3 27 = σ1 27 := by rw [p1 27 (by decide), b1 27 (by decide)]
          have ha := hal (σ3 5 4) (by omega) (by omega)
          have hcb := cnt_in (fun j => p j && decide (mkW σ s.toNat j = σ3 5 4)) d.toNat
          refine R_aload_n hB (j := 0) dX7_mostAlike_68 rfl rfl ?_
          refine R_getr hB (27) fl_X7_71 dX7_mostAlike_69 rfl rfl ?_
          refine R_aload_n hB (j := 0) dX7_mostAlike_72 rfl rfl ?_
          refine R_getr hB (5) fl_X7_56 dX7_mostAlike_73 rfl rfl ?_
          refine R_geti hB fl_X7_273 dX7_mostAlike_76 rfl ?_
          refine R_dup2 hB dX7_mostAlike_79 rfl rfl ?_
          refine R_iald hB rfl (by omega) dX7_mostAlike_80 ?_
          refine R_iconst hB dX7_mostAlike_81 ?_
          refine R_iadd hB dX7_mostAlike_82 ?_
          refine N_iast hB rfl (by omega) (by rw [k27, ha]; omega) dX7_mostAlike_83 (fun σ4 e4 => ?_)
          have k54 : σ4 5 = σ3 5 := by rw [e4]; exact up_row (by decide)
          have hv4 : σ4 27 (σ3 5 4) = cnt (fun j => p j && decide (mkW σ s.toNat j = mkW σ s.toNat d.toNat)) (d.toNat + 1) := by
            rw [e4, up_s, k27, ha, ← hm, cnt_t (by simp [hp, hm])]
          refine R_iload_n hB (j := 3) dX7_mostAlike_84 rfl rfl ?_
          refine R_aload_n hB (j := 0) dX7_mostAlike_85 rfl rfl ?_
          refine R_getr hB (27) fl_X7_71 dX7_mostAlike_86 rfl rfl ?_
          refine R_aload_n hB (j := 0) dX7_mostAlike_89 rfl rfl ?_
          refine R_getr hB (5) fl_X7_56 dX7_mostAlike_90 rfl rfl ?_
          refine R_geti hB fl_X7_273 dX7_mostAlike_93 rfl ?_
          refine R_iald hB rfl (by rw [k54]; omega) dX7_mostAlike_96 ?_
          refine P_max hB (by omega) (by rw [k54, e4, up_s, k27, ha]; omega) ms_X7_197 (by decide) dX7_mostAlike_97 (Nat.le_of_ble_eq_true rfl) ?_
          refine R_istore_n hB (L' := [_, _, _, _, _]) dX7_mostAlike_100 rfl (Nat.le_of_ble_eq_true rfl) rfl ?_
          refine R_iinc hB (j := 4) (L' := [_, _, _, _, _]) dX7_mostAlike_101 rfl (Nat.le_of_ble_eq_true rfl) rfl ?_
          refine R_goto hB 13 dX7_mostAlike_104 rfl ?_
          exact R_sub [2, 3, 4, 1, 0] rfl (ih_13 _ _ _ (by omega) (by omega) (by first | exact hS | exact (hS2.tr p1 (fun _ q => q) (by simp)).tr (S' := SC) (by rw [e4]; exact Same.up (by decide)) (fun _ q => q) (fun _ q => q)) (by
            rw [show (d + 1).toNat = d.toNat + 1 by omega]
            simp only [mAl]
            first
            | (rw [hp, if_neg (by decide)]; exact hmo)
            | (rw [if_pos hp, ← hmo, k54, hv4])) (by
            first
            | exact hmob
            | (rw [k54, hv4]
               have := cnt_in (fun j => p j && decide (mkW σ s.toNat j = mkW σ s.toNat d.toNat)) (d.toNat + 1)
               omega)) (fun m q1 q2 => by
            rw [show (d + 1).toNat = d.toNat + 1 by omega]
            first
            | (rw [cnt_f (by simp [hp])]; exact hal m q1 q2)
            | (rw [e4]
               by_cases c : m = σ3 5 4
               · rw [c, up_s, k27, ha, cnt_t (by simp [hp, hm])]
               · rw [up_n (fun q => c q.2), k27, hal m q1 q2, cnt_f (by simp only [hp, Bool.true_and, decide_eq_false_iff_not]; rw [← hm]; exact fun q => c q.symm)])))
  exact R_sub [2, 3, 4, 1, 0] rfl (lp_13 _ _ _ _ (Nat.lt_succ_self _) (by omega) (by rw [h5]; exact Same.fill (by decide)) rfl (by omega) (fun m q1 q2 => by
    rw [h5]
    unfold fillM
    rw [if_pos ⟨rfl, q1, q2⟩]
    rfl))

theorem s_ask {Θ : Th} {σ : Mem} (h : InvC σ) : Spc Θ M_X7_ask 1 [.ref (Th.r Θ 0)] σ (fun r σ' => Same SC σ σ' ∧ r = amx (aMost σ) (σ 0 2).toNat) := by
  refine Spc_of (by decide +kernel) (Nat.le_of_ble_eq_true rfl) (fun Γ hB hE => ?_)
  show Run Θ Γ 0 [(0, .ref (Th.r Θ 0))] [] σ
  have hns := h.ns
  have hw := h.row
  have hn := hw.1
  have hr := h.2.2.2.1
  refine R_aload_n hB (j := 0) dX7_ask_0 rfl rfl ?_
  refine R_cV1 hB (s_never h) mv_X7_261 rfl rfl (by decide) dX7_ask_1 rfl rfl (Nat.le_of_ble_eq_true rfl) (fun z1 σ0 h1 => ?_)
  obtain ⟨c1, c2⟩ := h1
  refine R_istore_n hB (L' := [_, _]) dX7_ask_4 rfl (Nat.le_of_ble_eq_true rfl) rfl ?_
  refine R_iconst hB dX7_ask_5 ?_
  refine R_istore_n hB (L' := [_, _, _]) dX7_ask_6 rfl (Nat.le_of_ble_eq_true rfl) rfl ?_
  refine R_bipush hB dX7_ask_7 rfl ?_
  refine R_istore_n hB (L' := [_, _, _, _]) dX7_ask_9 rfl (Nat.le_of_ble_eq_true rfl) rfl ?_
  refine R_iconst hB dX7_ask_10 ?_
  refine R_istore hB (L' := [_, _, _, _, _]) dX7_ask_11 (Nat.le_of_ble_eq_true rfl) rfl ?_
  have lp_13 : ∀ (n_13 : Nat) (wh le s : Int) (σ1 : Mem), ((σ 0 2 - s).toNat) < n_13 → (0 ≤ s ∧ s ≤ σ 0 2) → (Same SC σ σ1) → (wh = amx (aMost σ) s.toNat) → (8 - le = amv (aMost σ) s.toNat) → (0 ≤ le ∧ le ≤ 9) → Run Θ Γ 13 [(0, .ref (Th.r Θ 0)), (1, .int (I z1)), (2, .int (I wh)), (3, .int (I le)), (4, .int (I s))] [] σ1 := by
    intro n_13
    induction n_13 with
    | zero => intro wh le s σ1 h_m; exact absurd h_m (Nat.not_lt_zero _)
    | succ n_13 ih_13 =>
      intro wh le s σ1 h_m hs hS hb hle hlb
      have k0 : σ1 0 = σ 0 := hS 0 (by decide)
      have k2 : σ1 2 = σ 2 := hS 2 (by decide)
      have k33 : σ1 33 = σ 33 := hS 33 (by decide)
      have k34 : σ1 34 = σ 34 := hS 34 (by decide)
      have k35 : σ1 35 = σ 35 := hS 35 (by decide)
      refine R_iload hB (j := 4) dX7_ask_13 rfl ?_
      refine R_aload_n hB (j := 0) dX7_ask_15 rfl rfl ?_
      refine R_geti hB fl_X7_118 dX7_ask_16 rfl ?_
      refine R_icmp_ge hB 49 (by omega) (by rw [k0]; omega) dX7_ask_19 rfl (fun h19 => ?_) (fun h19 => ?_)
      · rw [k0] at h19
        refine R_iload_n hB (j := 2) dX7_ask_49 rfl rfl ?_
        exact R_iret hB hE rfl dX7_ask_50 (⟨hS, by rw [hb]; congr 1; omega⟩)
      · rw [k0] at h19
        have hI := h.same hS
        refine R_aload_n hB (j := 0) dX7_ask_22 rfl rfl ?_
        refine R_iload hB (j := 4) dX7_ask_23 rfl ?_
        refine R_iload_n hB (j := 1) dX7_ask_25 rfl rfl ?_
        refine R_cV1 hB (s_mostAlike s (by rw [k0]; omega) (nvB σ) z1 (by rw [k2]; exact c2) hI) mv_X7_264 rfl rfl (by decide) dX7_ask_26 rfl rfl (Nat.le_of_ble_eq_true rfl) (fun z26 σ2 h26 => ?_)
        obtain ⟨d1, d2⟩ := h26
        have hmk : mkW σ1 s.toNat = mkW σ s.toNat := by
          funext i
          unfold mkW
          rw [hS (8 + s.toNat) (by simp; omega), k33, k34, k35, k2]
        rw [hmk, k2] at d2
        have hab := mAl_in (nvB σ) (mkW σ s.toNat) (σ 2 4).toNat
        rw [← d2] at hab
        have hfs : 8 - z26 = aMost σ s.toNat := by unfold aMost; rw [← d2]
        have hA := am_step (f := aMost σ) (fun k => by have := mAl_in (nvB σ) (mkW σ k) (σ 2 4).toNat; unfold aMost; omega) hb hle hfs
        rw [show ((s.toNat : Nat) : Int) = s by omega, show s.toNat + 1 = (s + 1).toNat by omega] at hA
        refine R_istore hB (L' := [_, _, _, _, _, _]) dX7_ask_29 (Nat.le_of_ble_eq_true rfl) rfl ?_
        refine R_iload hB (j := 0) dX7_ask_31 rfl ?_
        refine R_iload_n hB (j := 4) dX7_ask_33 rfl rfl ?_
        refine R_icmp_ge hB 43 (by omega) (by omega) dX7_ask_34 rfl (fun h34 => ?_) (fun h34 => ?_)
        · have hB2 := hA.2 (by omega)
          refine R_iinc hB (j := 5) (L' := [_, _, _, _, _, _]) dX7_ask_43 rfl (Nat.le_of_ble_eq_true rfl) rfl ?_
          refine R_goto hB 13 dX7_ask_46 rfl ?_
          exact R_sub [2, 3, 4, 5, 0] rfl (ih_13 _ _ _ _ (by omega) (by omega) (hS.tr d1 (fun _ q => q) (fun _ q => q)) hB2.1 (by have := hB2.2; omega) (by omega))
        · have hB2 := hA.1 (by omega)
          refine R_iload hB (j := 0) dX7_ask_37 rfl ?_
          refine R_istore_n hB (L' := [_, _, _, _, _, _]) dX7_ask_39 rfl (Nat.le_of_ble_eq_true rfl) rfl ?_
          refine R_iload hB (j := 5) dX7_ask_40 rfl ?_
          refine R_istore_n hB (L' := [_, _, _, _, _, _]) dX7_ask_42 rfl (Nat.le_of_ble_eq_true rfl) rfl ?_
          refine R_iinc hB (j := 5) (L' := [_, _, _, _, _, _]) dX7_ask_43 rfl (Nat.le_of_ble_eq_true rfl) rfl ?_
          refine R_goto hB 13 dX7_ask_46 rfl ?_
          exact R_sub [4, 5, 1, 2, 0] rfl (ih_13 _ _ _ _ (by omega) (by omega) (hS.tr d1 (fun _ q => q) (fun _ q => q)) hB2.1 (by have := hB2.2; omega) (by omega))
  exact R_sub [4, 3, 2, 1, 0] rfl (lp_13 _ _ _ _ _ (Nat.lt_succ_self _) (by omega) c1 rfl rfl (by omega))
