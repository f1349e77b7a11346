/-! a row of deeds grows by one -/
theorem evs_pw (hr : Int → Int) (n h : Nat) : (evs hr n h).Pairwise (fun a b => hr a ≤ hr b) := by
  induction h with
  | zero => simp [evs]
  | succ h ih =>
    rw [evs, List.pairwise_append]
    refine ⟨ih, ?_, ?_⟩
    · apply List.Pairwise.imp_of_mem (R := fun _ _ => True)
      · intro a b ha hb _
        have h1 := (evH_mem.mp ha).2
        have h2 := (evH_mem.mp hb).2
        omega
      · exact List.pairwise_of_forall (fun _ _ => trivial)
    · intro a ha b hb
      have h1 := (evs_mem.mp ha).2
      have h2 := (evH_mem.mp hb).2
      omega
theorem row_sorted {hr ho so od : Int → Int} {n : Int} (hw : RowOK hr ho so od n) {i j : Int} (hi : 0 ≤ i) (hij : i < j) (hj : j < n) : hr (od i) ≤ hr (od j) := by
  have h := evs_pw hr n.toNat 50
  rw [← hw.2.2, ordL, List.pairwise_map, List.pairwise_iff_getElem] at h
  have := h i.toNat j.toNat (by simp; omega) (by simp; omega) (by omega)
  simp only [List.getElem_range] at this
  rwa [show ((i.toNat : Nat) : Int) = i by omega, show ((j.toNat : Nat) : Int) = j by omega] at this
theorem evH_ins {hr hr' : Int → Int} {n h : Nat} {hour : Int} (e : ∀ k : Int, hr' k = if k = n then hour else hr k) : evH hr' (n + 1) h = evH hr n h ++ (if hour = h then [(n : Int)] else []) := by
  unfold evH
  rw [ordL_s, List.filter_append]
  congr 1
  · apply List.filter_congr
    intro d hd
    have := id_mem.mp hd
    rw [e d, if_neg (by omega)]
  · have e1 : hr' (n : Int) = hour := by rw [e, if_pos rfl]
    by_cases q : hour = h
    · simp [List.filter_cons, e1, q]
    · simp [List.filter_cons, e1, q]
theorem evs_ins {hr hr' : Int → Int} {n : Nat} {hour : Nat} (e : ∀ k : Int, hr' k = if k = n then (hour : Int) else hr k) (m : Nat) : evs hr' (n + 1) (hour + 1 + m) = evs hr n (hour + 1) ++ (n : Int) :: (evs hr n (hour + 1 + m)).drop (evs hr n (hour + 1)).length := by
  have low : ∀ h, h ≤ hour → evs hr' (n + 1) h = evs hr n h := by
    intro h
    induction h with
    | zero => intro _; rfl
    | succ h ih =>
      intro hh
      rw [evs, evs, ih (by omega), evH_ins e, if_neg (by omega)]
      simp
  induction m with
  | zero =>
    rw [Nat.add_zero, evs, low hour (Nat.le_refl _), evH_ins e, if_pos rfl, evs]
    simp
  | succ m ih =>
    rw [← Nat.add_assoc, evs, ih, evH_ins e, if_neg (by omega)]
    obtain ⟨t, h1, -⟩ := evs_split hr n (hour + 1) m
    rw [show evs hr n (hour + 1 + m + 1) = evs hr n (hour + 1 + m) ++ evH hr n (hour + 1 + m) from rfl, h1]
    simp
theorem row_ins {hr ho so od hr' ho' so' od' : Int → Int} {n hour house sound a : Int} (hw : RowOK hr ho so od n) (hn : n < 8) (b1 : 0 ≤ hour ∧ hour < 50) (b2 : 0 ≤ house ∧ house ≤ 9) (b3 : 0 ≤ sound ∧ sound < 4) (ha : 0 ≤ a ∧ a ≤ n) (h1 : a = 0 ∨ hr (od (a - 1)) ≤ hour) (h2 : ∀ k, a ≤ k → k < n → hour < hr (od k))
    (e1 : ∀ k, hr' k = if k = n then hour else hr k) (e2 : ∀ k, ho' k = if k = n then house else ho k) (e3 : ∀ k, so' k = if k = n then sound else so k) (e4 : ∀ k, 0 ≤ k → k ≤ n → od' k = if k < a then od k else if k = a then n else od (k - 1)) : RowOK hr' ho' so' od' (n + 1) := by
  refine ⟨by have := hw.1; omega, fun d q1 q2 => ?_, ?_⟩
  · rw [e1, e2, e3]
    by_cases hd : d = n
    · simp only [hd, if_true]; exact ⟨b1, b2, b3⟩
    · simp only [if_neg hd]; exact hw.2.1 d q1 (by omega)
  · obtain ⟨hN, rfl⟩ := Int.eq_ofNat_of_zero_le b1.1
    obtain ⟨N, rfl⟩ := Int.eq_ofNat_of_zero_le hw.1.1
    have hpre : ordL od a.toNat = evs hr N (hN + 1) := by
      refine pre_evs hw (k := a) (h := hN + 1) ha (by omega) (fun d hd => ?_) ?_
      · obtain ⟨j, hj, rfl⟩ := ordL_mem.mp hd
        rcases h1 with h1 | h1
        · omega
        · by_cases q : (j : Int) = a - 1
          · rw [q]; omega
          · have := row_sorted hw (i := j) (j := a - 1) (by omega) (by omega) (by omega)
            omega
      · by_cases q : a = N
        · exact Or.inl q
        · exact Or.inr (by have := h2 a (by omega) (by omega); omega)
    have hs := evs_ins (hr := hr) (hr' := hr') (n := N) (hour := hN) e1 (50 - (hN + 1))
    rw [show hN + 1 + (50 - (hN + 1)) = 50 by omega] at hs
    have h3 : ordL od N = evs hr N 50 := hw.2.2
    rw [show ((N : Int) + 1).toNat = N + 1 by omega, hs, ← hpre, ← h3, ordL_len]
    have s1 : N + 1 = a.toNat + (1 + (N - a.toNat)) := by omega
    have A : ordL od' a.toNat = ordL od a.toNat := by
      refine ordL_cg (fun k q1 q2 => ?_)
      rw [e4 k q1 (by omega), if_pos (by omega)]
    have s2 : N = a.toNat + (N - a.toNat) := by omega
    have hdrop : (ordL od N).drop a.toNat = (List.range (N - a.toNat)).map (fun j : Nat => od ((a.toNat + j : Nat) : Int)) := by
      have q := ordL_app od a.toNat (N - a.toNat)
      rw [← s2] at q
      rw [q, List.drop_append_of_le_length (by rw [ordL_len]; exact Nat.le_refl _)]
      rw [List.drop_of_length_le (by rw [ordL_len]; exact Nat.le_refl _)]
      rfl
    have B : (List.range (1 + (N - a.toNat))).map (fun j : Nat => od' ((a.toNat + j : Nat) : Int)) = (N : Int) :: (ordL od N).drop a.toNat := by
      rw [hdrop, Nat.add_comm 1, List.range_succ_eq_map, List.map_cons, List.map_map]
      have C : od' ((a.toNat + 0 : Nat) : Int) = N := by rw [e4 _ (by omega) (by omega), if_neg (by omega), if_pos (by omega)]
      rw [C]
      refine congrArg _ (List.map_congr_left (fun j hj => ?_))
      have := List.mem_range.mp hj
      simp only [Function.comp]
      rw [e4 _ (by omega) (by omega), if_neg (by omega), if_neg (by omega)]
      refine congrArg od ?_
      omega
    rw [s1, ordL_app, A, B]
/-- the place in a whole row of the i-th deed of the row without w -/
def phi (w i : Int) : Int := if 0 ≤ w ∧ w ≤ i then i + 1 else i
theorem i_shlb {x : Int} (hx : x = 0 ∨ x = 1) {k : Int} (hk : 0 ≤ k ∧ k < 8) : I x <<< (I k &&& 31) = I (x * 2 ^ k.toNat) := by
  obtain ⟨n, rfl⟩ := Int.eq_ofNat_of_zero_le hk.1
  have q : ∀ n : Nat, n < 8 → I 0 <<< (I n &&& 31) = I (0 * 2 ^ n) ∧ I 1 <<< (I n &&& 31) = I (1 * 2 ^ n) := by decide
  rcases hx with rfl | rfl
  · exact (q n (by omega)).1
  · exact (q n (by omega)).2
theorem P_within5 {Θ : Th} {Γ : Gm} {Y : Mt} {pc : Nat} {L : List (Nat × Value)} {rest : List Value} {σ : Mem} (hB : Base Θ Γ Y) (hY : Y.1.cls = RX5) {a b : Int} (ha : rng a) (hb : rng b) (hR : CallRm Y M_X7_within) (hd : decode Y.2.1 pc = .ok (.invokestatic 21, 3)) (hw : (rest.map fun v => v.category).sum ≤ 8) (kk : ∀ z, z = (if 0 ≤ a ∧ a < b then 1 else 0) → Run Θ Γ (pc + 3) L (.int (I z) :: rest) σ) : Run Θ Γ pc L (.int (I b) :: .int (I a) :: rest) σ := by
  intro hcn H ls locs hL hP hSS
  have hm := ms_X7_89
  have hg : GoodIn TT (codeW M_X7_within :: TT) := fun w h => by
    rcases List.mem_cons.mp h with rfl | h
    · exact TT_in _ hm.2.2.2.1
    · exact TT_in w h
  have hfr := hB.2.2.1
  have hlo := hB.2.2.2.1
  have ht := hB.1.2.2.2.2
  have hnest := hB.2.1.2.2.2.2.2.2.2
  rw [show RX5 = Y.1.cls from hY.symm] at hnest
  exact R_aft1 (Qg := Pu σ (fun z => z = if 0 ≤ a ∧ a < b then 1 else 0)) hL hSS (va_runSN (Ts := TT) (As := [.int (I a), .int (I b)]) (rest := rest) hB.1 (s_within (Θ := Θ) (σ := σ) a b ha hb) ⟨va_cnB 2 ht hg rfl rfl rfl hnest (ht _ hm.2.2.1) hm.2.2.2.2 ⟨by rw [hfr]; exact hR.1, by rw [hlo]; exact hR.2⟩, ht _ hm.2.1, trivial⟩ ⟨PcW_blind, fun U hU hW => ⟨rfl, hB.2.1.step hW (by rw [hU]; exact hSS), hcn, by rw [hU]; exact hP⟩⟩ rfl rfl (hL.1.trans hB.1.2.2.1) rfl (lv_room hw) hd hB.2.2.2.2.1) (fun z σ' h => by obtain ⟨h1, h2⟩ := h; subst h1; exact kk z h2)
