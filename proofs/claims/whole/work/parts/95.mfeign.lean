theorem s_lowest {Θ : Th} {σ : Mem} (X Y w : Int) (hX : 0 ≤ X ∧ X < 4611686018427387904) (hY : 0 < Y ∧ Y < 4611686018427387904) (hw : rng w) : Spc Θ M_X8_lowest 2 [.long (Jl X), .long (Jl Y), .int (I w)] σ (Pu σ (fun z => z = if w = 0 then X / ((Nat.gcd X.toNat Y.toNat : Nat) : Int) else Y / ((Nat.gcd X.toNat Y.toNat : Nat) : Int))) := by
  refine Spc_of (by decide +kernel) (Nat.le_of_ble_eq_true rfl) (fun Γ hB hE => ?_)
  show Run Θ Γ 0 [(0, .long (Jl X)), (2, .long (Jl Y)), (4, .int (I w))] [] σ
  refine R_lload_n hB (j := 0) dX8_lowest_0 rfl rfl ?_
  refine R_lstore hB (L' := [_, _, _, _]) dX8_lowest_1 (Nat.le_of_ble_eq_true rfl) rfl ?_
  refine R_lload_n hB (j := 2) dX8_lowest_3 rfl rfl ?_
  refine R_lstore hB (L' := [_, _, _, _, _]) dX8_lowest_4 (Nat.le_of_ble_eq_true rfl) rfl ?_
  have lp_6 : ∀ (n_6 : Nat) (x y : Int), (y.toNat) < n_6 → (0 ≤ x ∧ x < 4611686018427387904) → (0 ≤ y ∧ y < 4611686018427387904) → (0 < x ∨ 0 < y) → (Nat.gcd x.toNat y.toNat = Nat.gcd X.toNat Y.toNat) → Run Θ Γ 6 [(0, .long (Jl X)), (2, .long (Jl Y)), (4, .int (I w)), (5, .long (Jl x)), (7, .long (Jl y))] [] σ := by
    intro n_6
    induction n_6 with
    | zero => intro x y h_m; exact absurd h_m (Nat.not_lt_zero _)
    | succ n_6 ih_6 =>
      intro x y h_m hx hy hxy hg
      refine R_lload hB (j := 4) dX8_lowest_6 rfl ?_
      refine R_lconst hB (z := 0) dX8_lowest_8 rfl ?_
      refine R_lcmp hB (by omega) (by omega) dX8_lowest_9 ?_
      refine R_if_eq hB 31 (by split <;> (try split) <;> omega) dX8_lowest_10 rfl (fun h10 => ?_) (fun h10 => ?_)
      · have hy0 : y = 0 := by split at h10 <;> (try split at h10) <;> omega
        have hgx : x = ((Nat.gcd X.toNat Y.toNat : Nat) : Int) := by
          have := hg
          rw [hy0] at this
          rw [← this, show (0 : Int).toNat = 0 from rfl, Nat.gcd_zero_right]
          omega
        have hx0 : 0 < x := by omega
        refine R_iload hB (j := 2) dX8_lowest_31 rfl ?_
        refine R_if_ne hB 43 (by omega) dX8_lowest_33 rfl (fun h33 => ?_) (fun h33 => ?_)
        · refine R_lload_n hB (j := 1) dX8_lowest_43 rfl rfl ?_
          refine R_lload hB (j := 3) dX8_lowest_44 rfl ?_
          refine R_ldiv hB (Y / x) (j_ne0 (by omega) (by omega)) (j_div (by omega) (by omega)) dX8_lowest_46 ?_
          exact R_lret hB hE rfl dX8_lowest_47 (⟨rfl, by
            rw [← hgx]
            first
            | rw [if_pos h33]
            | rw [if_neg h33]⟩)
        · refine R_lload_n hB (j := 0) dX8_lowest_36 rfl rfl ?_
          refine R_lload hB (j := 3) dX8_lowest_37 rfl ?_
          refine R_ldiv hB (X / x) (j_ne0 (by omega) (by omega)) (j_div (by omega) (by omega)) dX8_lowest_39 ?_
          refine R_goto hB 47 dX8_lowest_40 rfl ?_
          exact R_lret hB hE rfl dX8_lowest_47 (⟨rfl, by
            rw [← hgx]
            first
            | rw [if_pos h33]
            | rw [if_neg h33]⟩)
      · have hy1 : 0 < y := by split at h10 <;> (try split at h10) <;> omega
        have hrm := Int.emod_nonneg x (show y ≠ 0 by omega)
        have hrl := Int.emod_lt_of_pos x hy1
        refine R_lload hB (j := 3) dX8_lowest_13 rfl ?_
        refine R_lload hB (j := 4) dX8_lowest_15 rfl ?_
        refine R_lrem hB (x % y) (j_ne0 (by omega) (by omega)) (j_rem (by omega) (by omega)) dX8_lowest_17 ?_
        refine R_lstore hB (L' := [_, _, _, _, _, _]) dX8_lowest_18 (Nat.le_of_ble_eq_true rfl) rfl ?_
        refine R_lload hB (j := 5) dX8_lowest_20 rfl ?_
        refine R_lstore hB (L' := [_, _, _, _, _, _]) dX8_lowest_22 (Nat.le_of_ble_eq_true rfl) rfl ?_
        refine R_lload hB (j := 1) dX8_lowest_24 rfl ?_
        refine R_lstore hB (L' := [_, _, _, _, _, _]) dX8_lowest_26 (Nat.le_of_ble_eq_true rfl) rfl ?_
        refine R_goto hB 6 dX8_lowest_28 rfl ?_
        exact R_sub [3, 4, 5, 1, 0] rfl (ih_6 _ _ (by omega) (by omega) (by omega) (by omega) (by
          rw [← hg]
          have e : (x % y).toNat = x.toNat % y.toNat := by
            obtain ⟨a, rfl⟩ := Int.eq_ofNat_of_zero_le hx.1
            obtain ⟨b, rfl⟩ := Int.eq_ofNat_of_zero_le hy.1
            rw [← Int.natCast_emod]; rfl
          rw [e, Nat.gcd_comm, ← Nat.gcd_rec, Nat.gcd_comm]))
  exact R_sub [2, 3, 4, 1, 0] rfl (lp_6 _ _ _ (Nat.lt_succ_self _) (by omega) (by omega) (by omega) rfl)

theorem s_feignOf {Θ : Th} {σ : Mem} (c d w : Int) (hc : 0 ≤ c ∧ c ≤ 16) (hd : 0 ≤ d ∧ d < σ 2 4) (hw : rng w) (h : InvC σ) (hR : Rel σ) : Spc Θ M_X8_feignOf 2 [.ref (Th.r Θ 1), .int (I c), .int (I d), .int (I w)] σ (fun r σ' => FrM σ σ' ∧ RR σ' ∧ ∃ a b, RedQ (fgT σ c d) (4 * fgM σ d) a b ∧ r = if w = 0 then a else b) := by
  refine Spc_of (by decide +kernel) (Nat.le_of_ble_eq_true rfl) (fun Γ hB hE => ?_)
  show Run Θ Γ 0 [(0, .ref (Th.r Θ 1)), (1, .int (I c)), (2, .int (I d)), (3, .int (I w))] [] σ
  have hns := h.ns
  have hds := h.row.1
  have h256 := p2_256 (σ 0 2).toNat (by omega)
  have h2p := p2_pos (σ 0 2).toNat
  refine R_aload_n hB (j := 0) dX8_feignOf_0 rfl rfl ?_
  refine R_cV0 hB (s_asTold h hR) mv_X8_171 rfl rfl (by decide) dX8_feignOf_1 rfl rfl (Nat.le_of_ble_eq_true rfl) (fun σ1 h1 => ?_)
  obtain ⟨f1, f2, f3, f4⟩ := h1
  have r0 : σ1 0 = σ 0 := f1.1 0 (by decide)
  have r2 : σ1 2 = σ 2 := f1.1 2 (by decide)
  have n2 : σ1 1 2 = σ 0 2 := by rw [f2.2.2.1, r0]
  have n7 : σ1 1 7 = σ 2 4 := by rw [f2.2.2.2.1, r2]
  have hN1 := f2.npre (by omega) (by omega)
  have hkd : ∀ j, 0 ≤ j → j < σ 0 2 → 0 ≤ σ1 58 j ∧ σ1 58 j ≤ 3 := fun j q1 q2 => by
    have := (hN1.2.2.1 j q1 (by omega)).2.2.2
    rw [(mz_v σ1 j).2.2.2] at this
    exact this
  have wS : ∀ τ : Mem, Same K7 σ1 τ → τ 1 2 = σ 0 2 := fun τ q => by rw [q 1 (by decide)]; exact n2
  refine R_lconst hB (z := 0) dX8_feignOf_4 rfl ?_
  refine R_lstore hB (L' := [_, _, _, _, _]) dX8_feignOf_5 (Nat.le_of_ble_eq_true rfl) rfl ?_
  refine R_iconst hB dX8_feignOf_7 ?_
  refine R_istore hB (L' := [_, _, _, _, _, _]) dX8_feignOf_8 (Nat.le_of_ble_eq_true rfl) rfl ?_
  have lp_10 : ∀ (n_10 : Nat) (k : Int) (σ2 : Mem), ((σ 0 2 - k).toNat) < n_10 → (0 ≤ k ∧ k ≤ σ 0 2) → (Same [72] σ1 σ2) → (∀ j, 0 ≤ j → j < k → σ2 72 j = σ1 58 j) → Run Θ Γ 10 [(0, .ref (Th.r Θ 1)), (1, .int (I c)), (2, .int (I d)), (3, .int (I w)), (4, .long (Jl 0)), (6, .int (I k))] [] σ2 := by
    intro n_10
    induction n_10 with
    | zero => intro k σ2 h_m; exact absurd h_m (Nat.not_lt_zero _)
    | succ n_10 ih_10 =>
      intro k σ2 h_m hk S2 h72
      have p2 : σ2 1 2 = σ 0 2 := by rw [S2 1 (by decide)]; exact n2
      have k58 : σ2 58 = σ1 58 := S2 58 (by decide)
      refine R_iload hB (j := 5) dX8_feignOf_10 rfl ?_
      refine R_aload_n hB (j := 0) dX8_feignOf_12 rfl rfl ?_
      refine R_geti hB fl_X8_114 dX8_feignOf_13 rfl ?_
      refine R_icmp_ge hB 39 (by omega) (by rw [p2]; omega) dX8_feignOf_16 rfl (fun h16 => ?_) (fun h16 => ?_)
      · rw [p2] at h16
        refine R_iconst hB dX8_feignOf_39 ?_
        refine R_istore hB (L' := [_, _, _, _, _, _]) dX8_feignOf_40 (Nat.le_of_ble_eq_true rfl) rfl ?_
        have lp_42 : ∀ (n_42 : Nat) (sm st : Int) (σ4 : Mem), ((2 ^ (σ 0 2).toNat - st).toNat) < n_42 → (0 ≤ st ∧ st ≤ 2 ^ (σ 0 2).toNat) → (Same K7 σ1 σ4) → (∀ j, 0 ≤ j → j < σ 0 2 → σ4 72 j = σ1 58 j) → (sm = sumN (gV c (fun s => cTS σ s d) (σ 0 2).toNat (σ 25 2)) st.toNat) → Run Θ Γ 42 [(0, .ref (Th.r Θ 1)), (1, .int (I c)), (2, .int (I d)), (3, .int (I w)), (4, .long (Jl sm)), (6, .int (I st))] [] σ4 := by
          intro n_42
          induction n_42 with
          | zero => intro sm st σ4 h_m; exact absurd h_m (Nat.not_lt_zero _)
          | succ n_42 ih_42 =>
            intro sm st σ4 h_m hst S4 h724 hsm
            have p4 := wS _ S4
            refine R_iload hB (j := 5) dX8_feignOf_42 rfl ?_
            refine R_iconst hB dX8_feignOf_44 ?_
            refine R_aload_n hB (j := 0) dX8_feignOf_45 rfl rfl ?_
            refine R_geti hB fl_X8_114 dX8_feignOf_46 rfl ?_
            refine R_ishl hB (2 ^ (σ4 1 2).toNat) (i_shl1z (by rw [p4]; omega)) dX8_feignOf_49 ?_
            refine R_icmp_ge hB 156 (by omega) (by rw [p4]; omega) dX8_feignOf_50 rfl (fun h50 => ?_) (fun h50 => ?_)
            · rw [p4] at h50
              refine R_iconst hB dX8_feignOf_156 ?_
              refine R_istore hB (L' := [_, _, _, _, _, _]) dX8_feignOf_157 (Nat.le_of_ble_eq_true rfl) rfl ?_
              have lp_159 : ∀ (n_159 : Nat) (k : Int) (σ8 : Mem), ((σ 0 2 - k).toNat) < n_159 → (0 ≤ k ∧ k ≤ σ 0 2) → (Same K7 σ1 σ8) → (∀ j, 0 ≤ j → j < σ 0 2 → σ8 72 j = σ1 58 j) → (∀ j, 0 ≤ j → j < k → σ8 58 j = σ1 58 j) → Run Θ Γ 159 [(0, .ref (Th.r Θ 1)), (1, .int (I c)), (2, .int (I d)), (3, .int (I w)), (4, .long (Jl sm)), (6, .int (I k))] [] σ8 := by
                intro n_159
                induction n_159 with
                | zero => intro k σ8 h_m; exact absurd h_m (Nat.not_lt_zero _)
                | succ n_159 ih_159 =>
                  intro k σ8 h_m hk S8 h728 hK8
                  have p8 := wS _ S8
                  refine R_iload hB (j := 5) dX8_feignOf_159 rfl ?_
                  refine R_aload_n hB (j := 0) dX8_feignOf_161 rfl rfl ?_
                  refine R_geti hB fl_X8_114 dX8_feignOf_162 rfl ?_
                  refine R_icmp_ge hB 188 (by omega) (by rw [p8]; omega) dX8_feignOf_165 rfl (fun h165 => ?_) (fun h165 => ?_)
                  · rw [p8] at h165
                    have hstE : st.toNat = 2 ^ (σ 0 2).toNat := by
                      have e : ((2 ^ (σ 0 2).toNat : Nat) : Int) = 2 ^ (σ 0 2).toNat := by rw [Int.natCast_pow]; rfl
                      omega
                    have hsmT : sm = gG c (fun s => cTS σ s d) (σ 0 2).toNat (σ 25 2) := by
                      rw [hsm, hstE]; rfl
                    have hsb := gS_in hc (fun s => cTS σ s d) (n := (σ 0 2).toNat) (by omega) (σ 25 2) (m := st.toNat) (by omega)
                    rw [← hsm] at hsb
                    have hsmb : 0 ≤ sm ∧ sm < 4611686018427387904 := by omega
                    have hYb : (0 : Int) < 2 ^ (4 * (σ 0 2).toNat) ∧ (2 : Int) ^ (4 * (σ 0 2).toNat) < 4611686018427387904 := by
                      have q1 := p2_33 (4 * (σ 0 2).toNat) (by omega)
                      have q2 := p2_pos (4 * (σ 0 2).toNat)
                      omega
                    refine R_lload hB (j := 4) dX8_feignOf_188 rfl ?_
                    refine R_lconst hB (z := 1) dX8_feignOf_190 rfl ?_
                    refine R_iconst hB dX8_feignOf_191 ?_
                    refine R_aload_n hB (j := 0) dX8_feignOf_192 rfl rfl ?_
                    refine R_geti hB fl_X8_114 dX8_feignOf_193 rfl ?_
                    refine R_imul hB dX8_feignOf_196 ?_
                    refine R_lshl hB (2 ^ (4 * (σ 0 2).toNat)) (by rw [show (4 : Int) * σ8 1 2 = ((4 * (σ 0 2).toNat : Nat) : Int) by rw [p8]; omega]; exact j_shl1 _ (by omega)) dX8_feignOf_197 ?_
                    refine R_iload_n hB (j := 3) dX8_feignOf_198 rfl rfl ?_
                    refine P_cS2 hB (s_lowest _ _ _ hsmb hYb hw) ms_X8_263 (by decide) dX8_feignOf_199 rfl rfl (Nat.le_of_ble_eq_true rfl) (fun z199 h199 => ?_)
                    obtain ⟨a, b, hab⟩ := RedQ_ex (4 * fgM σ d) (fgT σ c d)
                    have hft := feign_t (σ := σ) (c := c) (d := d) hns
                    have h0 : 0 ≤ fgT σ c d := (abv_in hc _ _).1
                    have hLR := low_red (S := (σ 0 2).toNat) hab h0 hft.2
                    rw [hsmT, hft.1, hLR.1, hLR.2] at h199
                    exact R_lret hB hE rfl dX8_feignOf_202 (⟨f1.tr (K7.fr S8), f2.kind S8 (fun k q1 q2 => hK8 k q1 (by rw [r0] at q2; omega)), a, b, hab, h199⟩)
                  · rw [p8] at h165
                    refine R_aload_n hB (j := 0) dX8_feignOf_168 rfl rfl ?_
                    refine R_getr hB (58) fl_X8_25 dX8_feignOf_169 rfl rfl ?_
                    refine R_iload hB (j := 5) dX8_feignOf_172 rfl ?_
                    refine R_aload_n hB (j := 0) dX8_feignOf_174 rfl rfl ?_
                    refine R_getr hB (72) fl_X8_68 dX8_feignOf_175 rfl rfl ?_
                    refine R_iload hB (j := 5) dX8_feignOf_178 rfl ?_
                    refine R_iald hB rfl (by omega) dX8_feignOf_180 ?_
                    refine N_iast hB rfl (by omega) (by rw [h728 k hk.1 h165]; have := hkd k hk.1 h165; omega) dX8_feignOf_181 (fun σ9 e9 => ?_)
                    refine R_iinc hB (j := 5) (L' := [_, _, _, _, _, _]) dX8_feignOf_182 rfl (Nat.le_of_ble_eq_true rfl) rfl ?_
                    refine R_goto hB 159 dX8_feignOf_185 rfl ?_
                    exact R_sub [1, 2, 3, 4, 5, 0] rfl (ih_159 _ _ (by omega) (by omega) (S8.tr (S' := K7) (by rw [e9]; exact Same.up (by decide)) (fun _ q => q) (fun _ q => q)) (fun j q1 q2 => by rw [e9, up_i (by decide)]; exact h728 j q1 q2) (fun j q1 q2 => by
                      rw [e9]
                      by_cases c9 : j = k
                      · rw [c9, up_s]; exact h728 k hk.1 h165
                      · rw [up_n (fun q => c9 q.2)]; exact hK8 j q1 (by omega)))
              exact R_sub [1, 2, 3, 4, 5, 0] rfl (lp_159 _ _ _ (Nat.lt_succ_self _) (by omega) S4 h724 (fun j q1 q2 => by omega))
            · rw [p4] at h50
              refine R_lconst hB (z := 1) dX8_feignOf_53 rfl ?_
              refine R_lstore hB (L' := [_, _, _, _, _, _, _]) dX8_feignOf_54 (Nat.le_of_ble_eq_true rfl) rfl ?_
              refine R_iconst hB dX8_feignOf_56 ?_
              refine R_istore hB (L' := [_, _, _, _, _, _, _, _]) dX8_feignOf_57 (Nat.le_of_ble_eq_true rfl) rfl ?_
              have lp_59 : ∀ (n_59 : Nat) (wv k : Int) (σ5 : Mem), ((σ 0 2 - k).toNat) < n_59 → (0 ≤ k ∧ k ≤ σ 0 2) → (Same K7 σ1 σ5) → (∀ j, 0 ≤ j → j < σ 0 2 → σ5 72 j = σ1 58 j) → (∀ j, 0 ≤ j → j < k → σ5 58 j = kdS st.toNat j (σ1 58 j)) → (wv = wt c st.toNat k.toNat) → Run Θ Γ 59 [(0, .ref (Th.r Θ 1)), (1, .int (I c)), (2, .int (I d)), (3, .int (I w)), (4, .long (Jl sm)), (6, .int (I st)), (7, .long (Jl wv)), (9, .int (I k))] [] σ5 := by
                intro n_59
                induction n_59 with
                | zero => intro wv k σ5 h_m; exact absurd h_m (Nat.not_lt_zero _)
                | succ n_59 ih_59 =>
                  intro wv k σ5 h_m hk S5 h725 hK hwv
                  have p5 := wS _ S5
                  refine R_iload hB (j := 7) dX8_feignOf_59 rfl ?_
                  refine R_aload_n hB (j := 0) dX8_feignOf_61 rfl rfl ?_
                  refine R_geti hB fl_X8_114 dX8_feignOf_62 rfl ?_
                  refine R_icmp_ge hB 127 (by omega) (by rw [p5]; omega) dX8_feignOf_65 rfl (fun h65 => ?_) (fun h65 => ?_)
                  · rw [p5] at h65
                    have hkS : k = σ 0 2 := by omega
                    have hK4 : ∀ j, 0 ≤ j → j < σ1 1 2 → σ5 58 j = kdS st.toNat j (σ1 58 j) := fun j q1 q2 => hK j q1 (by rw [n2] at q2; omega)
                    refine R_aload_n hB (j := 0) dX8_feignOf_127 rfl rfl ?_
                    refine R_cV0 hB (s_runs (feign_n hN1 S5 hK4)) mv_X8_174 rfl rfl (by decide) dX8_feignOf_128 rfl rfl (Nat.le_of_ble_eq_true rfl) (fun σ7 h128 => ?_)
                    have FW := feign_w f2 f3 f4 S5 hK4 (by rw [r2]; exact hd) h128
                    rw [r0, f1.1 25 (by decide)] at FW
                    have ec : cnt (fP (fun s => cTS σ1 s d) st.toNat) (σ 0 2).toNat = cnt (fP (fun s => cTS σ s d) st.toNat) (σ 0 2).toNat := cnt_cg (fun s hs => by unfold fP; show (cTS σ1 s d && _) = (cTS σ s d && _); rw [cTS_mm f1.1 (by omega)])
                    rw [ec] at FW
                    have S7 : Same K7 σ1 σ7 := S5.tr (T := K7) h128.1 (fun _ q => q) (fun i q => by simp only [List.mem_cons, List.not_mem_nil, or_false] at *; omega)
                    have h727 : ∀ j, 0 ≤ j → j < σ 0 2 → σ7 72 j = σ1 58 j := fun j q1 q2 => by rw [h128.1 72 (by decide)]; exact h725 j q1 q2
                    refine R_lload hB (j := 4) dX8_feignOf_131 rfl ?_
                    refine R_aload_n hB (j := 0) dX8_feignOf_133 rfl rfl ?_
                    refine R_iload_n hB (j := 2) dX8_feignOf_134 rfl rfl ?_
                    refine P_cV1 hB (s_isProven _ (by omega) (by rw [wS _ S7]; exact hns)) mv_X8_211 rfl rfl (by decide) dX8_feignOf_135 rfl rfl (Nat.le_of_ble_eq_true rfl) (fun z135 h135 => ?_)
                    rw [FW] at h135
                    have jn_147 : ∀ (u : Int), (u = gV c (fun s => cTS σ s d) (σ 0 2).toNat (σ 25 2) st.toNat) → Run Θ Γ 147 [(0, .ref (Th.r Θ 1)), (1, .int (I c)), (2, .int (I d)), (3, .int (I w)), (4, .long (Jl sm)), (6, .int (I st)), (7, .long (Jl wv)), (9, .int (I k))] [.long (Jl u), .long (Jl sm)] σ7 := by
                      intro u hu
                      refine R_ladd hB dX8_feignOf_147 ?_
                      refine R_lstore hB (L' := [_, _, _, _, _, _, _, _]) dX8_feignOf_148 (Nat.le_of_ble_eq_true rfl) rfl ?_
                      refine R_iinc hB (j := 5) (L' := [_, _, _, _, _, _, _, _]) dX8_feignOf_150 rfl (Nat.le_of_ble_eq_true rfl) rfl ?_
                      refine R_goto hB 42 dX8_feignOf_153 rfl ?_
                      exact R_sub [2, 3, 4, 5, 1, 0] rfl (ih_42 _ _ _ (by omega) (by omega) S7 h727 (by rw [show (st + 1).toNat = st.toNat + 1 by omega]; simp only [sumN]; rw [← hsm, hu]))
                    refine R_if_eq hB 146 (by rw [h135]; split <;> omega) dX8_feignOf_138 rfl (fun h138 => ?_) (fun h138 => ?_)
                    · refine R_lconst hB (z := 0) dX8_feignOf_146 rfl ?_
                      exact R_sub [0, 1, 2, 3, 4, 5, 6, 7] rfl (jn_147 _ (by
                        unfold gV
                        by_cases q : σ 25 2 ≤ cnt (fP (fun s => cTS σ s d) st.toNat) (σ 0 2).toNat
                        · rw [decide_eq_true q] at h135; simp at h135; omega
                        · rw [if_neg q]))
                    · refine R_lload hB (j := 6) dX8_feignOf_141 rfl ?_
                      refine R_goto hB 147 dX8_feignOf_143 rfl ?_
                      exact R_sub [0, 1, 2, 3, 4, 5, 6, 7] rfl (jn_147 _ (by
                        unfold gV
                        rw [← hkS]
                        rw [hkS] at hwv ⊢
                        by_cases q : σ 25 2 ≤ cnt (fP (fun s => cTS σ s d) st.toNat) (σ 0 2).toNat
                        · rw [if_pos q]; exact hwv
                        · rw [decide_eq_false q] at h135; simp at h135; omega))
                  · rw [p5] at h65
                    refine R_lload hB (j := 6) dX8_feignOf_68 rfl ?_
                    refine R_iload hB (j := 5) dX8_feignOf_70 rfl ?_
                    refine R_iload hB (j := 7) dX8_feignOf_72 rfl ?_
                    refine P_cS1 hB (s_isIn _ _ (by omega) (by omega)) ms_X8_157 (by decide) dX8_feignOf_74 rfl rfl (Nat.le_of_ble_eq_true rfl) (fun z74 h74 => ?_)
                    have b74 : z74 = if st.toNat.testBit k.toNat = true then 1 else 0 := by
                      rw [h74]
                      by_cases q : st / 2 ^ k.toNat % 2 = 1
                      · rw [if_pos q, if_pos ((tb_iff hst.1 _).mp q)]
                      · rw [if_neg q, if_neg (fun w => q ((tb_iff hst.1 _).mpr w))]
                    have jn_90 : ∀ (y : Int), (y = if st.toNat.testBit k.toNat = true then c else 16 - c) → Run Θ Γ 90 [(0, .ref (Th.r Θ 1)), (1, .int (I c)), (2, .int (I d)), (3, .int (I w)), (4, .long (Jl sm)), (6, .int (I st)), (7, .long (Jl wv)), (9, .int (I k))] [.long (Jl y), .long (Jl wv)] σ5 := by
                      intro y hy
                      refine R_lmul hB dX8_feignOf_90 ?_
                      refine R_lstore hB (L' := [_, _, _, _, _, _, _, _]) dX8_feignOf_91 (Nat.le_of_ble_eq_true rfl) rfl ?_
                      refine R_aload_n hB (j := 1) dX8_feignOf_93 rfl rfl ?_
                      refine R_getr hB (58) fl_X8_25 dX8_feignOf_94 rfl rfl ?_
                      refine R_iload hB (j := 7) dX8_feignOf_97 rfl ?_
                      refine R_iload hB (j := 6) dX8_feignOf_99 rfl ?_
                      refine R_iload hB (j := 7) dX8_feignOf_101 rfl ?_
                      refine P_cS1 hB (s_isIn _ _ (by omega) (by omega)) ms_X8_157 (by decide) dX8_feignOf_103 rfl rfl (Nat.le_of_ble_eq_true rfl) (fun z103 h103 => ?_)
                      have b103 : z103 = if st.toNat.testBit k.toNat = true then 1 else 0 := by
                        rw [h103]
                        by_cases q : st / 2 ^ k.toNat % 2 = 1
                        · rw [if_pos q, if_pos ((tb_iff hst.1 _).mp q)]
                        · rw [if_neg q, if_neg (fun w => q ((tb_iff hst.1 _).mpr w))]
                      have jn_120 : ∀ (v : Int), (v = kdS st.toNat k (σ1 58 k)) → Run Θ Γ 120 [(0, .ref (Th.r Θ 1)), (1, .int (I c)), (2, .int (I d)), (3, .int (I w)), (4, .long (Jl sm)), (6, .int (I st)), (7, .long (Jl ((wv) * (y)))), (9, .int (I k))] [.int (I v), .int (I k), .ref (Th.r Θ 58)] σ5 := by
                        intro v hv
                        refine N_iast hB rfl (by omega) (by rw [hv]; unfold kdS; have := hkd k hk.1 h65; split <;> omega) dX8_feignOf_120 (fun σ6 e6 => ?_)
                        refine R_iinc hB (j := 7) (L' := [_, _, _, _, _, _, _, _]) dX8_feignOf_121 rfl (Nat.le_of_ble_eq_true rfl) rfl ?_
                        refine R_goto hB 59 dX8_feignOf_124 rfl ?_
                        exact R_sub [1, 2, 3, 4, 5, 6, 7, 0] rfl (ih_59 _ _ _ (by omega) (by omega) (S5.tr (S' := K7) (by rw [e6]; exact Same.up (by decide)) (fun _ q => q) (fun _ q => q)) (fun j q1 q2 => by rw [e6, up_i (by decide)]; exact h725 j q1 q2) (fun j q1 q2 => by
                          rw [e6]
                          by_cases c9 : j = k
                          · rw [c9, up_s, hv]
                          · rw [up_n (fun q => c9 q.2)]; exact hK j q1 (by omega)) (by rw [show (k + 1).toNat = k.toNat + 1 by omega, wt_s, ← hwv, hy]))
                      refine R_if_eq hB 113 (by rw [b103]; split <;> omega) dX8_feignOf_106 rfl (fun h106 => ?_) (fun h106 => ?_)
                      · refine R_aload_n hB (j := 1) dX8_feignOf_113 rfl rfl ?_
                        refine R_getr hB (72) fl_X8_68 dX8_feignOf_114 rfl rfl ?_
                        refine R_iload hB (j := 7) dX8_feignOf_117 rfl ?_
                        refine R_iald hB rfl (by omega) dX8_feignOf_119 ?_
                        exact R_sub [1, 2, 3, 4, 5, 6, 0, 7] rfl (jn_120 _ (by
                          unfold kdS
                          cases q : st.toNat.testBit k.toNat with
                          | false => exact h725 k hk.1 h65
                          | true => rw [q] at b103; simp at b103; omega))
                      · refine R_iconst hB dX8_feignOf_109 ?_
                        refine R_goto hB 120 dX8_feignOf_110 rfl ?_
                        exact R_sub [1, 2, 3, 4, 5, 6, 0, 7] rfl (jn_120 _ (by
                          unfold kdS
                          cases q : st.toNat.testBit k.toNat with
                          | true => rfl
                          | false => rw [q] at b103; simp at b103; omega))
                    refine R_if_eq hB 85 (by rw [b74]; split <;> omega) dX8_feignOf_77 rfl (fun h77 => ?_) (fun h77 => ?_)
                    · refine R_bipush hB dX8_feignOf_85 rfl ?_
                      refine R_iload_n hB (j := 1) dX8_feignOf_87 rfl rfl ?_
                      refine R_isub hB dX8_feignOf_88 ?_
                      refine R_i2l hB (by omega) dX8_feignOf_89 ?_
                      exact R_sub [0, 1, 2, 3, 4, 5, 6, 7] rfl (jn_90 _ (by
                        cases q : st.toNat.testBit k.toNat with
                        | false => rfl
                        | true => rw [q] at b74; simp at b74; omega))
                    · refine R_iload_n hB (j := 1) dX8_feignOf_80 rfl rfl ?_
                      refine R_i2l hB (by omega) dX8_feignOf_81 ?_
                      refine R_goto hB 90 dX8_feignOf_82 rfl ?_
                      exact R_sub [0, 1, 2, 3, 4, 5, 6, 7] rfl (jn_90 _ (by
                        cases q : st.toNat.testBit k.toNat with
                        | true => rfl
                        | false => rw [q] at b74; simp at b74; omega))
              exact R_sub [2, 3, 4, 5, 6, 7, 1, 0] rfl (lp_59 _ _ _ _ (Nat.lt_succ_self _) (by omega) S4 h724 (fun j q1 q2 => by omega) rfl)
        exact R_sub [1, 2, 3, 4, 5, 0] rfl (lp_42 _ _ _ _ (Nat.lt_succ_self _) (by omega) (S2.wide (fun i q => by simp only [List.mem_cons, List.not_mem_nil, or_false] at *; omega)) (fun j q1 q2 => h72 j q1 (by omega)) rfl)
      · rw [p2] at h16
        refine R_aload_n hB (j := 0) dX8_feignOf_19 rfl rfl ?_
        refine R_getr hB (72) fl_X8_68 dX8_feignOf_20 rfl rfl ?_
        refine R_iload hB (j := 5) dX8_feignOf_23 rfl ?_
        refine R_aload_n hB (j := 0) dX8_feignOf_25 rfl rfl ?_
        refine R_getr hB (58) fl_X8_25 dX8_feignOf_26 rfl rfl ?_
        refine R_iload hB (j := 5) dX8_feignOf_29 rfl ?_
        refine R_iald hB rfl (by omega) dX8_feignOf_31 ?_
        refine N_iast hB rfl (by omega) (by rw [k58]; have := hkd k hk.1 h16; omega) dX8_feignOf_32 (fun σ3 e3 => ?_)
        refine R_iinc hB (j := 5) (L' := [_, _, _, _, _, _]) dX8_feignOf_33 rfl (Nat.le_of_ble_eq_true rfl) rfl ?_
        refine R_goto hB 10 dX8_feignOf_36 rfl ?_
        exact R_sub [1, 2, 3, 4, 5, 0] rfl (ih_10 _ _ (by omega) (by omega) (S2.tr (S' := [72]) (by rw [e3]; exact Same.up (by decide)) (fun _ q => q) (fun _ q => q)) (fun j q1 q2 => by
          rw [e3]
          by_cases c9 : j = k
          · rw [c9, up_s, k58]
          · rw [up_n (fun q => c9 q.2)]; exact h72 j q1 (by omega)))
  exact R_sub [2, 3, 4, 5, 1, 0] rfl (lp_10 _ _ _ (Nat.lt_succ_self _) (by omega) Same.rf (fun j q1 q2 => by omega))

theorem s_mfeign {Θ : Th} {σ : Mem} (c d w : Int) (hcr : rng c) (hdr : rng d) (hwr : rng w) (h : InvC σ) (hR : Rel σ) : Spc Θ M_X8_feign 2 [.ref (Th.r Θ 1), .int (I c), .int (I d), .int (I w)] σ (fun r σ' => FrM σ σ' ∧ ((¬ ((0 ≤ c ∧ c < 17) ∧ (0 ≤ d ∧ d < σ 2 4) ∧ (0 ≤ w ∧ w < 2)) ∧ r = -9223372036854775806) ∨ (((0 ≤ c ∧ c < 17) ∧ (0 ≤ d ∧ d < σ 2 4) ∧ (0 ≤ w ∧ w < 2)) ∧ ∃ a b, RedQ (fgT σ c d) (4 * fgM σ d) a b ∧ r = if w = 0 then a else b))) := by
  refine Spc_of (by decide +kernel) (Nat.le_of_ble_eq_true rfl) (fun Γ hB hE => ?_)
  show Run Θ Γ 0 [(0, .ref (Th.r Θ 1)), (1, .int (I c)), (2, .int (I d)), (3, .int (I w))] [] σ
  have hns := h.ns
  refine R_iload_n hB (j := 1) dX8_feign_0 rfl rfl ?_
  refine R_iconst hB dX8_feign_1 ?_
  refine R_bipush hB dX8_feign_2 rfl ?_
  refine P_cS1 hB (s_in _ _ _ (by omega) (by omega) (by omega)) ms_X8_98 (by decide) dX8_feign_4 rfl rfl (Nat.le_of_ble_eq_true rfl) (fun z4 h4 => ?_)
  refine R_if_eq hB 37 (by rw [h4]; split <;> omega) dX8_feign_7 rfl (fun h7 => ?_) (fun h7 => ?_)
  · have hc : ¬ (0 ≤ c ∧ c ≤ 16) := fun q => by
      rw [if_pos q] at h4
      omega
    refine R_bipush hB dX8_feign_37 rfl ?_
    refine P_cS2 hB (s_no _ (by omega)) ms_X8_271 (by decide) dX8_feign_39 rfl rfl (Nat.le_of_ble_eq_true rfl) (fun z39 h39 => ?_)
    exact R_lret hB hE rfl dX8_feign_42 (by
      first
      | exact ⟨f1.tr k1, Or.inr ⟨by omega, k3⟩⟩
      | exact ⟨f1, Or.inl ⟨by omega, by omega⟩⟩
      | exact ⟨FrM.rf, Or.inl ⟨by omega, by omega⟩⟩)
  · have hc : 0 ≤ c ∧ c ≤ 16 := by
      by_cases q : 0 ≤ c ∧ c ≤ 16
      · exact q
      · rw [if_neg q] at h4; omega
    refine R_aload_n hB (j := 0) dX8_feign_10 rfl rfl ?_
    refine R_iload_n hB (j := 2) dX8_feign_11 rfl rfl ?_
    refine R_cV1 hB (s_isDeed _ hdr h hR) mv_X8_142 rfl rfl (by decide) dX8_feign_12 rfl rfl (Nat.le_of_ble_eq_true rfl) (fun z12 σ1 h12 => ?_)
    obtain ⟨f1, f2, f3⟩ := h12
    refine R_if_eq hB 37 (by rw [f3]; split <;> omega) dX8_feign_15 rfl (fun h15 => ?_) (fun h15 => ?_)
    · have hd : ¬ (0 ≤ d ∧ d < σ 2 4) := fun q => by
        rw [if_pos q] at f3
        omega
      refine R_bipush hB dX8_feign_37 rfl ?_
      refine P_cS2 hB (s_no _ (by omega)) ms_X8_271 (by decide) dX8_feign_39 rfl rfl (Nat.le_of_ble_eq_true rfl) (fun z39 h39 => ?_)
      exact R_lret hB hE rfl dX8_feign_42 (by
        first
        | exact ⟨f1.tr k1, Or.inr ⟨by omega, k3⟩⟩
        | exact ⟨f1, Or.inl ⟨by omega, by omega⟩⟩
        | exact ⟨FrM.rf, Or.inl ⟨by omega, by omega⟩⟩)
    · have hd : 0 ≤ d ∧ d < σ 2 4 := by
        by_cases q : 0 ≤ d ∧ d < σ 2 4
        · exact q
        · rw [if_neg q] at f3; omega
      refine R_iload_n hB (j := 3) dX8_feign_18 rfl rfl ?_
      refine R_iconst hB dX8_feign_19 ?_
      refine R_iconst hB dX8_feign_20 ?_
      refine P_cS1 hB (s_in _ _ _ (by omega) (by omega) (by omega)) ms_X8_98 (by decide) dX8_feign_21 rfl rfl (Nat.le_of_ble_eq_true rfl) (fun z21 h21 => ?_)
      refine R_if_eq hB 37 (by rw [h21]; split <;> omega) dX8_feign_24 rfl (fun h24 => ?_) (fun h24 => ?_)
      · have he : ¬ (0 ≤ w ∧ w ≤ 1) := fun q => by
          rw [if_pos q] at h21
          omega
        refine R_bipush hB dX8_feign_37 rfl ?_
        refine P_cS2 hB (s_no _ (by omega)) ms_X8_271 (by decide) dX8_feign_39 rfl rfl (Nat.le_of_ble_eq_true rfl) (fun z39 h39 => ?_)
        exact R_lret hB hE rfl dX8_feign_42 (by
          first
          | exact ⟨f1.tr k1, Or.inr ⟨by omega, k3⟩⟩
          | exact ⟨f1, Or.inl ⟨by omega, by omega⟩⟩
          | exact ⟨FrM.rf, Or.inl ⟨by omega, by omega⟩⟩)
      · have he : 0 ≤ w ∧ w ≤ 1 := by
          by_cases q : 0 ≤ w ∧ w ≤ 1
          · exact q
          · rw [if_neg q] at h21; omega
        refine R_aload_n hB (j := 0) dX8_feign_27 rfl rfl ?_
        refine R_iload_n hB (j := 1) dX8_feign_28 rfl rfl ?_
        refine R_iload_n hB (j := 2) dX8_feign_29 rfl rfl ?_
        refine R_iload_n hB (j := 3) dX8_feign_30 rfl rfl ?_
        refine R_cV2 hB (s_feignOf c d w hc (by rw [f1.1 2 (by decide)]; exact hd) hwr f2.1 f2.2.1) mv_X8_267 rfl rfl (by decide) dX8_feign_31 rfl rfl (Nat.le_of_ble_eq_true rfl) (fun z31 σ2 h31 => ?_)
        obtain ⟨k1, k2, k3⟩ := h31
        rw [mm_fgT f1.1 hns.2, mm_fgM f1.1 hns.2] at k3
        refine R_goto hB 42 dX8_feign_34 rfl ?_
        exact R_lret hB hE rfl dX8_feign_42 (by
          first
          | exact ⟨f1.tr k1, Or.inr ⟨by omega, k3⟩⟩
          | exact ⟨f1, Or.inl ⟨by omega, by omega⟩⟩
          | exact ⟨FrM.rf, Or.inl ⟨by omega, by omega⟩⟩)
