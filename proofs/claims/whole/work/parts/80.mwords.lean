/-! the model's rows behind a run, in the class's words -/
section RUNQ
variable {σ σ' : Mem}
theorem RunQ.ts (h : RunQ σ σ') {k d : Int} (hk : 0 ≤ k ∧ k < σ 1 2) (hd : 0 ≤ d ∧ d < σ 1 7) : tsB σ' d k = mTS σ k d := tsB_if ((h.2 k hk.1 hk.2).1 d hd.1 hd.2).2
theorem RunQ.wh (h : RunQ σ σ') (hn : 0 ≤ σ 1 2) {d : Int} (hd : 0 ≤ d ∧ d < σ 1 7) : whN σ' d = cnt (fun k : Nat => mTS σ (k : Int) d) (σ 1 2).toNat := by
  unfold whN
  rw [h.1 1 (by decide)]
  exact cnt_cg (fun k hk => h.ts (by omega) hd)
theorem RunQ.pr (h : RunQ σ σ') (hn : 0 ≤ σ 1 2) {d : Int} (hd : 0 ≤ d ∧ d < σ 1 7) : prB σ' d = (mP σ d && decide (σ 1 13 ≤ cnt (fun k : Nat => mTS σ (k : Int) d) (σ 1 2).toNat)) := by
  unfold prB
  rw [h.wh hn hd]
  unfold mP
  rw [h.1 1 (by decide)]
theorem RunQ.mn (h : RunQ σ σ') {k : Int} (hk : 0 ≤ k ∧ k < σ 1 2) : mnN σ' k = cnt (fun d : Nat => mTS σ k (d : Int)) (σ 1 7).toNat := by
  unfold mnN
  rw [h.1 1 (by decide)]
  exact cnt_cg (fun d hd => h.ts hk (by omega))
theorem mE_nodup (σ : Mem) (m : Nat) : (mE σ m).Nodup := (evs_nodup _ _ _).filter _
theorem RunQ.mk (h : RunQ σ σ') {k so : Int} (hk : 0 ≤ k ∧ k < σ 1 2) (hs : -1 ≤ so) : mkN σ' k so = mcn σ k 3 (fun d => decide (so = -1 ∨ σ 61 d = so)) (mE σ 50) := by
  show _ = cnL _ _ _ _ _ _ _ _
  rw [cnL_cnt (by decide) _ (mE_nodup σ 50) (fun e he => (mE_mem he).1.1)]
  unfold mkN
  rw [h.1 1 (by decide)]
  refine cnt_cg (fun d hd => ?_)
  rw [((h.2 k hk.1 hk.2).1 d (by omega) (by omega)).1, h.1 61 (by decide)]
  rw [Bool.decide_and]
end RUNQ
/-- the model's deeds and laws are the class's, none left out, nobody away -/
def DeR (σ : Mem) : Prop := σ 1 7 = σ 2 4 ∧ (∀ d, 0 ≤ d → d < σ 2 4 → σ 59 d = σ 33 d ∧ σ 60 d = σ 34 d ∧ σ 61 d = σ 35 d) ∧ (σ 1 11 = σ 25 0 ∧ σ 1 12 = σ 25 1 ∧ σ 1 13 = σ 25 2) ∧ (0 ≤ σ 2 4 ∧ σ 2 4 ≤ 8) ∧ σ 1 14 = 0 ∧ σ 1 15 = 0
theorem RR.der {σ : Mem} (h : RR σ) (h14 : σ 1 14 = 0) (h15 : σ 1 15 = 0) : DeR σ := ⟨h.2.2.2.1, h.2.2.2.2.2, h.2.1.2.2.2, h.1.row.1, h14, h15⟩
theorem DeR.ts {σ : Mem} (h : DeR σ) (k : Int) {d : Int} (hd : 0 ≤ d ∧ d < σ 2 4) : mTS σ k d = TSz σ (mz σ k) d := by
  obtain ⟨a, b, ⟨l1, l2, l3⟩, n, h14, h15⟩ := h
  unfold mTS TSz
  have ee : mE σ 50 = evs (σ 33) (σ 2 4).toNat 50 := by
    rw [mE_0 h14, a]
    exact evs_cg (fun d q1 q2 => (b d q1 (by omega)).1) 50
  rw [ee, l1, l2, h15, show σ 56 k = mz σ k 1 from (mz_v σ k).2.1.symm]
  rw [tsL_cg (z' := mz σ k) (z := mz σ k) (hr' := σ 59) (hr := σ 33) (ho' := σ 60) (ho := σ 34) (so' := σ 61) (so := σ 35) ⟨rfl, rfl, rfl, rfl⟩ (fun e he => by
    have := (evs_mem.mp he).1
    exact b e (by omega) (by omega)) (mz σ k 1) (σ 25 0) (σ 25 1) (d := d) (b d hd.1 hd.2).1]
  simp
theorem move_w {σ1 σ3 σ4 : Mem} {k h : Int} (hR : RR σ1) (h14 : σ1 1 14 = 0) (h15 : σ1 1 15 = 0) (hS : Same [55, 62, 63, 64, 65, 66] σ1 σ3) (ho : ∀ j, j ≠ k → σ3 55 j = σ1 55 j) (hh : σ3 55 k = h) (hk : 0 ≤ k ∧ k < σ1 0 2) (h0 : 0 ≤ h ∧ h < 10) (hq : RunQ σ3 σ4) : cnt (fun d : Nat => prB σ4 (d : Int)) (σ4 1 7).toNat = mvP σ1 k.toNat h.toNat := by
  have D := hR.der h14 h15
  have hns := hR.1.ns
  have D3 : DeR σ3 := by
    unfold DeR
    rw [hS 1 (by decide), hS 2 (by decide), hS 59 (by decide), hS 60 (by decide), hS 61 (by decide), hS 33 (by decide), hS 34 (by decide), hS 35 (by decide), hS 25 (by decide)]
    exact D
  have k2 : σ3 1 2 = σ1 0 2 := by rw [hS 1 (by decide)]; exact hR.2.2.1
  have k7 : σ3 1 7 = σ1 2 4 := by rw [hS 1 (by decide)]; exact hR.2.2.2.1
  unfold mvP
  rw [hq.1 1 (by decide), k7]
  refine cnt_cg (fun d hd => ?_)
  rw [hq.pr (by omega) (by omega), mP_0 D3.2.2.2.2.1, Bool.true_and, k2, D3.2.2.1.2.2, hS 25 (by decide)]
  have e : cnt (fun j : Nat => mTS σ3 (j : Int) (d : Int)) (σ1 0 2).toNat = cnt (fun j : Nat => if j = k.toNat then TSz σ1 (zHo (σ1 (8 + k.toNat)) ((h.toNat : Nat) : Int)) (d : Int) else cTS σ1 j (d : Int)) (σ1 0 2).toNat := by
    refine cnt_cg (fun j hj => ?_)
    rw [D3.ts _ (by rw [hS 2 (by decide)]; omega)]
    have t1 : ∀ z, TSz σ3 z (d : Int) = TSz σ1 z (d : Int) := fun z => by
      unfold TSz
      rw [hS 2 (by decide), hS 33 (by decide), hS 34 (by decide), hS 35 (by decide), hS 25 (by decide)]
    rw [t1]
    obtain ⟨m0, m1, m2, m3⟩ := mz_v σ3 j
    obtain ⟨b0, b1, b2, b3⟩ := hR.2.2.2.2.1 j (by omega)
    have z1 : mz σ3 j 1 = σ1 (8 + j) 1 := by rw [m1, hS 56 (by decide), b1]
    have z2 : mz σ3 j 2 = σ1 (8 + j) 2 := by rw [m2, hS 57 (by decide), b2]
    have z3 : mz σ3 j 3 = σ1 (8 + j) 3 := by rw [m3, hS 58 (by decide), b3]
    by_cases c : j = k.toNat
    · rw [if_pos c]
      refine TSz_cg ?_ _
      obtain ⟨v0, v1, v2, v3⟩ := zHo_v (σ1 (8 + k.toNat)) ((h.toNat : Nat) : Int)
      rw [v0, v1, v2, v3, z1, z2, z3, m0, c, show ((k.toNat : Nat) : Int) = k by omega, hh]
      exact ⟨by omega, rfl, rfl, rfl⟩
    · rw [if_neg c]
      exact TSz_cg ⟨by rw [m0, ho _ (by omega), b0], z1, z2, z3⟩ _
  rw [e]
theorem feed_w {σ1 σ3 σ4 : Mem} {k h : Int} (hR : RR σ1) (h14 : σ1 1 14 = 0) (h15 : σ1 1 15 = 0) (hS : Same [57, 62, 63, 64, 65, 66] σ1 σ3) (hh : σ3 57 k = h) (hk : 0 ≤ k ∧ k < σ1 0 2) (h0 : 0 ≤ h ∧ h < 4) (hq : RunQ σ3 σ4) : mnN σ4 k = fdP σ1 k.toNat h.toNat := by
  have D := hR.der h14 h15
  have hns := hR.1.ns
  have D3 : DeR σ3 := by
    unfold DeR
    rw [hS 1 (by decide), hS 2 (by decide), hS 59 (by decide), hS 60 (by decide), hS 61 (by decide), hS 33 (by decide), hS 34 (by decide), hS 35 (by decide), hS 25 (by decide)]
    exact D
  have k2 : σ3 1 2 = σ1 0 2 := by rw [hS 1 (by decide)]; exact hR.2.2.1
  have k7 : σ3 1 7 = σ1 2 4 := by rw [hS 1 (by decide)]; exact hR.2.2.2.1
  unfold fdP
  rw [hq.mn (by omega), k7]
  refine cnt_cg (fun d hd => ?_)
  rw [D3.ts _ (by rw [hS 2 (by decide)]; omega)]
  have t1 : ∀ z, TSz σ3 z (d : Int) = TSz σ1 z (d : Int) := fun z => by
    unfold TSz
    rw [hS 2 (by decide), hS 33 (by decide), hS 34 (by decide), hS 35 (by decide), hS 25 (by decide)]
  rw [t1]
  obtain ⟨m0, m1, m2, m3⟩ := mz_v σ3 k
  obtain ⟨b0, b1, b2, b3⟩ := hR.2.2.2.2.1 k.toNat (by omega)
  rw [show ((k.toNat : Nat) : Int) = k by omega] at b0 b1 b2 b3
  refine TSz_cg ?_ _
  obtain ⟨v0, v1, v2, v3⟩ := zSu_v (σ1 (8 + k.toNat)) ((h.toNat : Nat) : Int)
  rw [v0, v1, v2, v3, m0, m1, m2, m3, hh, hS 55 (by decide), hS 56 (by decide), hS 58 (by decide), b0, b1, b3]
  exact ⟨rfl, rfl, by omega, rfl⟩
theorem mv_npre {σ1 σ3 : Mem} {k h : Int} (hR : RR σ1) (h14 : σ1 1 14 = 0) (h15 : σ1 1 15 = 0) (hS : Same [55, 62, 63, 64, 65, 66] σ1 σ3) (ho : ∀ j, j ≠ k → σ3 55 j = σ1 55 j) (hh : σ3 55 k = h) (h0 : 0 ≤ h ∧ h < 10) : NPre σ3 := by
  obtain ⟨a, b, c, d⟩ := hR.npre (by omega) (by omega)
  unfold NPre
  rw [hS 1 (by decide), hS 59 (by decide), hS 60 (by decide), hS 61 (by decide)]
  refine ⟨a, b, fun j q1 q2 => ?_, d⟩
  have := c j q1 q2
  obtain ⟨m0, m1, m2, m3⟩ := mz_v σ3 j
  obtain ⟨n0, n1, n2, n3⟩ := mz_v σ1 j
  unfold BedOK at *
  rw [m0, m1, m2, m3, hS 56 (by decide), hS 57 (by decide), hS 58 (by decide)]
  rw [n0, n1, n2, n3] at this
  refine ⟨?_, this.2⟩
  by_cases q : j = k
  · rw [q, hh]; omega
  · rw [ho j q]; exact this.1
theorem fd_npre {σ1 σ3 : Mem} {k h : Int} (hR : RR σ1) (h14 : σ1 1 14 = 0) (h15 : σ1 1 15 = 0) (hS : Same [57, 62, 63, 64, 65, 66] σ1 σ3) (ho : ∀ j, j ≠ k → σ3 57 j = σ1 57 j) (hh : σ3 57 k = h) (h0 : 0 ≤ h ∧ h < 4) : NPre σ3 := by
  obtain ⟨a, b, c, d⟩ := hR.npre (by omega) (by omega)
  unfold NPre
  rw [hS 1 (by decide), hS 59 (by decide), hS 60 (by decide), hS 61 (by decide)]
  refine ⟨a, b, fun j q1 q2 => ?_, d⟩
  have := c j q1 q2
  obtain ⟨m0, m1, m2, m3⟩ := mz_v σ3 j
  obtain ⟨n0, n1, n2, n3⟩ := mz_v σ1 j
  unfold BedOK at *
  rw [m0, m1, m2, m3, hS 55 (by decide), hS 56 (by decide), hS 58 (by decide)]
  rw [n0, n1, n2, n3] at this
  refine ⟨this.1, this.2.1, ?_, this.2.2.2⟩
  by_cases q : j = k
  · rw [q, hh]; omega
  · rw [ho j q]; exact this.2.2.1
/-- the place of a row is set back: all is as it was read -/
theorem RR.back {σ1 σ2 : Mem} (hR : RR σ1) (c : Nat) (hc : c ∈ [55, 57, 60]) (hS : Same [c, 62, 63, 64, 65, 66] σ1 σ2) (hb : σ2 c = σ1 c) : RR σ2 := by
  refine hR.ns (fun i hi => ?_)
  by_cases q : i = c
  · rw [q]; exact hb
  · refine hS i (fun w => ?_)
    simp only [List.mem_cons, List.not_mem_nil, or_false] at w hi
    omega
theorem FrM.row {σ1 σ2 : Mem} (c : Nat) (hc : c ∈ [55, 57, 60]) (hS : Same [c, 62, 63, 64, 65, 66] σ1 σ2) : FrM σ1 σ2 := by
  simp only [List.mem_cons, List.not_mem_nil, or_false] at hc
  refine ⟨hS.wide (fun i q => ?_), fun k _ _ _ _ => by rw [hS 1 (by simp; omega)]⟩
  simp only [List.mem_cons, List.not_mem_nil, or_false] at *
  omega
