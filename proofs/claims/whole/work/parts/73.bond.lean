/-! the bond of class and model -/
def TaR (σ : Mem) : Prop := σ 1 22 = σ 4 3 ∧ ∀ k, 0 ≤ k → k < σ 4 3 → σ 68 k = σ 41 k ∧ σ 69 k = σ 42 k ∧ σ 70 k = σ 43 k
def ShR (σ : Mem) : Prop := ∀ s : Nat, s < 4 → σ 73 s = 1 - σ (18 + s) 1 ∧ σ 74 s = σ (18 + s) 2 ∧ σ 75 s = σ (18 + s) 3 ∧ ∀ i, 0 ≤ i → i < 60 → σ 76 (60 * (s : Int) + i) = σ (49 + s) i
def Rel (σ : Mem) : Prop := MtOK σ ∧ (σ 53 0 = σ 16 3 ∧ σ 53 1 = σ 17 3) ∧ ((∀ k, 0 ≤ k → k < σ 16 3 → σ 54 k = σ 29 k) ∧ (∀ k, 0 ≤ k → k < σ 17 3 → σ 54 (39 + k) = σ 30 k)) ∧ (σ 1 11 = σ 25 0 ∧ σ 1 12 = σ 25 1 ∧ σ 1 13 = σ 25 2)
def Bond (σ : Mem) : Prop := Rel σ ∧ TaR σ ∧ ShR σ ∧ σ 1 33 = σ 0 7
def RD (σ : Mem) : Prop := σ 1 2 = σ 0 2 ∧ σ 1 7 = σ 2 4 ∧ (∀ s : Nat, (s : Int) < σ 0 2 → σ 55 s = σ (8 + s) 0 ∧ σ 56 s = σ (8 + s) 1 ∧ σ 57 s = σ (8 + s) 2 ∧ σ 58 s = σ (8 + s) 3) ∧ (∀ d, 0 ≤ d → d < σ 2 4 → σ 59 d = σ 33 d ∧ σ 60 d = σ 34 d ∧ σ 61 d = σ 35 d)
def RR (σ : Mem) : Prop := InvC σ ∧ Rel σ ∧ RD σ
theorem FrM.rf {σ : Mem} : FrM σ σ := ⟨fun _ _ => rfl, fun _ _ _ _ _ => rfl⟩
theorem FrM.tr {a b c : Mem} (h1 : FrM a b) (h2 : FrM b c) : FrM a c := ⟨h1.1.tr h2.1 (fun _ q => q) (fun _ q => q), fun k q1 q2 q3 q4 => by rw [h2.2 k q1 q2 q3 q4, h1.2 k q1 q2 q3 q4]⟩
theorem FrM.ns {σ σ' : Mem} (h : Same NS σ σ') : FrM σ σ' := ⟨h.wide (fun i q => by simp only [List.mem_cons, List.not_mem_nil, or_false] at *; omega), fun k _ _ _ _ => by rw [h 1 (by decide)]⟩
theorem FrM.arr {σ : Mem} {i : Nat} {x v : Int} (hi : i ∈ MSC) (h1 : i ≠ 1) : FrM σ (up σ i x v) := ⟨Same.up hi, fun k _ _ _ _ => by rw [up_i (fun q => h1 q.symm)]⟩
theorem FrM.fld {σ : Mem} {x v : Int} (hx : x = 2 ∨ x = 7 ∨ x = 14 ∨ x = 15) : FrM σ (up σ 1 x v) := ⟨Same.up (by decide), fun k q1 q2 q3 q4 => by rw [up_n (by omega)]⟩
theorem Rel.mm {σ σ' : Mem} (h : Rel σ) (hf : FrM σ σ') : Rel σ' := by
  obtain ⟨r, f⟩ := hf
  unfold Rel MtOK at *
  rw [f 11 (by decide) (by decide) (by decide) (by decide), f 12 (by decide) (by decide) (by decide) (by decide), f 13 (by decide) (by decide) (by decide) (by decide), r 53 (by decide), r 54 (by decide), r 16 (by decide), r 17 (by decide), r 29 (by decide), r 30 (by decide), r 25 (by decide)]
  exact h
theorem TaR.mm {σ σ' : Mem} (h : TaR σ) (hf : FrM σ σ') : TaR σ' := by
  obtain ⟨r, f⟩ := hf
  unfold TaR at *
  rw [f 22 (by decide) (by decide) (by decide) (by decide), r 4 (by decide), r 41 (by decide), r 42 (by decide), r 43 (by decide), r 68 (by decide), r 69 (by decide), r 70 (by decide)]
  exact h
theorem Bond.mm {σ σ' : Mem} (h : Bond σ) (hf : FrM σ σ') : Bond σ' := by
  refine ⟨h.1.mm hf, h.2.1.mm hf, fun s hs => ?_, ?_⟩
  · have r := hf.1
    rw [r 73 (by decide), r 74 (by decide), r 75 (by decide), r 76 (by decide), r (18 + s) (by simp; omega), r (49 + s) (by simp; omega)]
    exact h.2.2.1 s hs
  · rw [hf.2 33 (by decide) (by decide) (by decide) (by decide), hf.1 0 (by decide)]; exact h.2.2.2
theorem RR.ns {σ σ' : Mem} (h : RR σ) (hs : Same NS σ σ') : RR σ' := by
  have f := FrM.ns hs
  refine ⟨h.1.mm f.1, h.2.1.mm f, ?_⟩
  have hn := h.1.ns
  obtain ⟨-, -, a, b, c, d⟩ := h
  unfold RD
  rw [hs 1 (by decide), hs 0 (by decide), hs 2 (by decide), hs 59 (by decide), hs 60 (by decide), hs 61 (by decide), hs 33 (by decide), hs 34 (by decide), hs 35 (by decide), hs 55 (by decide), hs 56 (by decide), hs 57 (by decide), hs 58 (by decide)]
  refine ⟨a, b, fun s q => ?_, d⟩
  rw [hs (8 + s) (by simp; omega)]; exact c s q
theorem RR.fld {σ : Mem} (h : RR σ) {x v : Int} (hx : x = 14 ∨ x = 15) : RR (up σ 1 x v) := by
  have f : FrM σ (up σ 1 x v) := FrM.fld (by omega)
  refine ⟨h.1.mm f.1, h.2.1.mm f, ?_⟩
  obtain ⟨-, -, a, b, c, d⟩ := h
  unfold RD
  have u2 : up σ 1 x v 1 2 = σ 1 2 := up_n (by omega)
  have u7 : up σ 1 x v 1 7 = σ 1 7 := up_n (by omega)
  have r : ∀ j, j ≠ 1 → up σ 1 x v j = σ j := fun j hj => up_row hj
  rw [u2, u7, r 0 (by decide), r 2 (by decide), r 55 (by decide), r 56 (by decide), r 57 (by decide), r 58 (by decide), r 59 (by decide), r 60 (by decide), r 61 (by decide), r 33 (by decide), r 34 (by decide), r 35 (by decide)]
  refine ⟨a, b, fun s q => ?_, d⟩
  rw [up_row (by omega)]; exact c s q
theorem RD_of {σ σ1 σ2 : Mem} (hI : InvC σ) (hR : Rel σ) {r0 r1 : Int}
    (h0 : FFz 0 (mby σ 0) (σ 53 ((0 : Nat) : Int)) r0 ∧ Same [1, 55, 56, 57, 58] σ σ1 ∧ (∀ k, k ≠ 2 → σ1 1 k = σ 1 k) ∧ σ1 1 2 = unP r0 (σ 53 ((0 : Nat) : Int)) ∧ ∀ s, 0 ≤ s → s < σ1 1 2 → σ1 55 s = mby σ 0 (s * 5) - 48 ∧ σ1 56 s = mby σ 0 (s * 5 + 1) - 48 ∧ σ1 57 s = mby σ 0 (s * 5 + 2) - 48 ∧ σ1 58 s = ixT 0 (mby σ 0 (s * 5 + 3)))
    (h1 : FFz 1 (mby σ1 1) (σ1 53 ((1 : Nat) : Int)) r1 ∧ Same [1, 59, 60, 61] σ1 σ2 ∧ (∀ k, k ≠ 7 → σ2 1 k = σ1 1 k) ∧ σ2 1 7 = unP r1 (σ1 53 ((1 : Nat) : Int)) ∧ ∀ s, 0 ≤ s → s < σ2 1 7 → σ2 59 s = 10 * (mby σ1 1 (s * 5) - 48) + (mby σ1 1 (s * 5 + 1) - 48) ∧ σ2 60 s = mby σ1 1 (s * 5 + 2) - 48 ∧ σ2 61 s = ixT 1 (mby σ1 1 (s * 5 + 3))) :
    FFz 0 (σ 29) (σ 16 3) r0 ∧ FFz 1 (σ 30) (σ 17 3) r1 ∧ FrM σ σ2 ∧ RR σ2 := by
  obtain ⟨a1, a2, a3, a4, a5⟩ := h0
  obtain ⟨b1, b2, b3, b4, b5⟩ := h1
  have mb1 : mby σ1 1 = mby σ 1 := by unfold mby; rw [a2 54 (by decide)]
  rw [mb1] at b1 b5
  rw [a2 53 (by decide)] at b1 b4
  have hf : FrM σ σ2 := by
    refine ⟨(a2.tr b2 (T := MSC) (fun i q => by simp only [List.mem_cons, List.not_mem_nil, or_false] at *; omega) (fun i q => by simp only [List.mem_cons, List.not_mem_nil, or_false] at *; omega)), fun k q1 q2 _ _ => by rw [b3 k q2, a3 k q1]⟩
  have hR2 := hR
  obtain ⟨r1', ⟨r2, r3⟩, ⟨r4, r5⟩, -⟩ := hR2
  have e0 : σ 53 ((0 : Nat) : Int) = σ 16 3 := r2
  have e1 : σ 53 ((1 : Nat) : Int) = σ 17 3 := r3
  rw [e0] at a1 a4
  rw [e1] at b1 b4
  have m0 : ∀ k, 0 ≤ k → k < σ 16 3 → σ 29 k = mby σ 0 k := fun k q1 q2 => by
    unfold mby
    rw [← r4 k q1 q2]; congr 1; omega
  have m1 : ∀ k, 0 ≤ k → k < σ 17 3 → σ 30 k = mby σ 1 k := fun k q1 q2 => by
    unfold mby
    rw [← r5 k q1 q2]; rfl
  have F0 := FFz_cg a1 m0
  have F1 := FFz_cg b1 m1
  refine ⟨F0, F1, hf, hI.mm hf.1, hR.mm hf, ?_⟩
  obtain ⟨f, c1, c2, c3⟩ := hI.2.1
  obtain ⟨g, d1, d2, d3, d4⟩ := hI.2.2.1
  have ef := FFz_un F0 c1
  have eg := FFz_un F1 d1
  have t1 := hI.1.1.1
  have t2 := hI.1.1.2
  have n2 : σ2 1 2 = σ 0 2 := by rw [b3 2 (by decide), a4, ef, c2]
  have n7 : σ2 1 7 = σ 2 4 := by rw [b4, eg, d2]
  have hns := hI.ns
  unfold RD
  rw [n2, n7, hf.1 0 (by decide), hf.1 2 (by decide), hf.1 33 (by decide), hf.1 34 (by decide), hf.1 35 (by decide), b2 55 (by decide), b2 56 (by decide), b2 57 (by decide), b2 58 (by decide)]
  refine ⟨rfl, rfl, fun s hs => ?_, fun d q1 q2 => ?_⟩
  · rw [hf.1 (8 + s) (by simp; omega)]
    have hs2 : (s : Int) < σ1 1 2 := by rw [a4, ef, ← c2]; exact hs
    obtain ⟨x1, x2, x3, x4⟩ := a5 s (by omega) hs2
    obtain ⟨y1, y2, y3, y4⟩ := c3 s hs
    rw [c2] at hs
    have hb := (unP_fit c1 t1 (s := s) (by omega) hs).2.1
    rw [x1, x2, x3, x4, y1, y2, y3, y4, m0 _ (by omega) (by omega), m0 _ (by omega) (by omega), m0 _ (by omega) (by omega), m0 _ (by omega) (by omega)]
    exact ⟨rfl, rfl, rfl, rfl⟩
  · obtain ⟨x1, x2, x3⟩ := b5 d q1 (by rw [n7]; exact q2)
    obtain ⟨y1, y2, y3⟩ := d4 d q1 q2
    rw [d2] at q2
    have hb := (unP_fit d1 t2 (s := d) q1 q2).2.1
    rw [x1, x2, x3, y1, y2, y3, m1 _ (by omega) (by omega), m1 _ (by omega) (by omega), m1 _ (by omega) (by omega), m1 _ (by omega) (by omega)]
    exact ⟨rfl, rfl, rfl⟩
theorem RR.npre {σ : Mem} (h : RR σ) (h14 : 0 ≤ σ 1 14 ∧ σ 1 14 < 256) (h15 : 0 ≤ σ 1 15 ∧ σ 1 15 < 256) : NPre σ := by
  obtain ⟨hI, hR, a, b, c, d⟩ := h
  have hl := hI.2.2.2.1
  obtain ⟨-, -, -, l1, l2, l3⟩ := hR
  have hw := hI.row
  refine ⟨by rw [a]; exact hI.ns, by rw [b]; exact hw.1, fun k q1 q2 => ?_, fun e q1 q2 => ?_, ?_, h14, h15⟩
  · obtain ⟨n, rfl⟩ := Int.eq_ofNat_of_zero_le q1
    rw [a] at q2
    have hb := hI.bed q2
    obtain ⟨e0, e1, e2, e3⟩ := c n q2
    obtain ⟨m0, m1, m2, m3⟩ := mz_v σ n
    unfold BedOK at *
    rw [m0, m1, m2, m3, e0, e1, e2, e3]; exact hb
  · rw [b] at q2
    obtain ⟨e0, e1, e2⟩ := d e q1 q2
    rw [e0, e1, e2]; exact hw.2.1 e q1 q2
  · rw [l1, l2, l3]; exact hl
/-- as told: no deed left out, no sleeper away -/
def RT (σ : Mem) : Prop := RR σ ∧ σ 1 14 = 0 ∧ σ 1 15 = 0 ∧ ∀ s : Nat, (s : Int) < σ 0 2 → (∀ d, 0 ≤ d → d < σ 2 4 → σ 64 (8 * d + s) = cFT σ s d ∧ σ 65 (8 * d + s) = if cTS σ s d = true then 1 else 0) ∧ (∀ h, 0 ≤ h → h < 50 → σ 62 (50 * (s : Int) + h) = dpH σ s h) ∧ σ 66 s = cWk σ s
theorem mE_0 {σ : Mem} (h0 : σ 1 14 = 0) (h : Nat) : mE σ h = evs (σ 59) (σ 1 7).toNat h := by
  unfold mE
  rw [List.filter_eq_self]
  intro e _
  unfold mP
  rw [h0]
  simp
theorem night_id {z z' hr hr' ho ho' so so' : Int → Int} {es : List Int} (hz : z' 0 = z 0 ∧ z' 1 = z 1 ∧ z' 2 = z 2 ∧ z' 3 = z 3) (he : ∀ e ∈ es, hr' e = hr e ∧ ho' e = ho e ∧ so' e = so e) (l : Int) : lnL z' hr' ho' so' es l = lnL z hr ho so es l ∧ ∀ (f : Int) (q q' : Int → Bool), (∀ e ∈ es, q' e = q e) → cnL z' hr' ho' so' f q' es l = cnL z hr ho so f q es l := by
  have := night_map (fun x => x) hz he l
  rw [List.map_id'] at this
  exact this
theorem RR.z {σ : Mem} (h : RR σ) {s : Nat} (hs : (s : Int) < σ 0 2) : mz σ s 0 = σ (8 + s) 0 ∧ mz σ s 1 = σ (8 + s) 1 ∧ mz σ s 2 = σ (8 + s) 2 ∧ mz σ s 3 = σ (8 + s) 3 := by
  obtain ⟨m0, m1, m2, m3⟩ := mz_v σ s
  rw [m0, m1, m2, m3]
  exact h.2.2.2.2.1 s hs
theorem RR.ev {σ : Mem} (h : RR σ) (h0 : σ 1 14 = 0) (m : Nat) : mE σ m = evs (σ 33) (σ 2 4).toNat m := by
  rw [mE_0 h0, h.2.2.2.1]
  have hn := h.1.row.1
  exact evs_cg (fun d q1 q2 => (h.2.2.2.2.2 d q1 (by omega)).1) m
theorem RR.he {σ : Mem} (h : RR σ) (m : Nat) : ∀ e ∈ evs (σ 33) (σ 2 4).toNat m, σ 59 e = σ 33 e ∧ σ 60 e = σ 34 e ∧ σ 61 e = σ 35 e := fun e he => by
  have hn := h.1.row.1
  have := (evs_mem.mp he).1
  exact h.2.2.2.2.2 e (by omega) (by omega)
theorem RT_of {σ σ' : Mem} (h : RR σ) (h14 : σ 1 14 = 0) (h15 : σ 1 15 = 0) (hq : RunQ σ σ') : RT σ' := by
  obtain ⟨hS, hj⟩ := hq
  have hF := FrM.ns hS
  have hn := h.1.ns
  have hw := h.1.row.1
  refine ⟨h.ns hS, by rw [hS 1 (by decide)]; exact h14, by rw [hS 1 (by decide)]; exact h15, fun s hs => ?_⟩
  rw [hS 0 (by decide)] at hs
  have hz := h.z hs
  obtain ⟨q1, q2, q3⟩ := hj s (by omega) (by rw [h.2.2.1]; exact hs)
  have hl := h.2.1.2.2.2
  have e56 : σ 56 s = σ (8 + s) 1 := (h.2.2.2.2.1 s hs).2.1
  rw [hS 2 (by decide)]
  refine ⟨fun d d1 d2 => ?_, fun g g1 g2 => ?_, ?_⟩
  · obtain ⟨w1, w2⟩ := q1 d d1 (by rw [h.2.2.2.1]; exact d2)
    have hc := night_cg hz (h.he 50) d (σ (8 + s) 1)
    have ht := tsL_cg hz (h.he 50) (σ (8 + s) 1) (σ 25 0) (σ 25 1) (d := d) (h.2.2.2.2.2 d d1 d2).1
    rw [w1, w2, cFT_mm hF.1 (by omega), cTS_mm hF.1 (by omega)]
    refine ⟨?_, ?_⟩
    · show ftL _ _ _ _ _ _ _ = _
      rw [h.ev h14, e56, hc.1]; rfl
    · have : mTS σ s d = cTS σ s d := by
        unfold mTS cTS
        rw [h.ev h14, e56, hl.1, hl.2.1, ht, h15]
        simp
      rw [this]
  · rw [q2 g g1 g2, mm_dpH hF.1 (by omega)]
    unfold mDp dpH
    show deepOf _ _ (g - lnL _ _ _ _ _ _) = _
    rw [h.ev h14, e56, (night_id hz (h.he g.toNat) _).1, (h.2.2.2.2.1 s hs).2.2.1, (h.2.2.2.2.1 s hs).2.2.2]
  · rw [q3, mm_cWk hF.1 (by omega)]
    unfold cWk
    show cnL _ _ _ _ _ _ _ _ = _
    rw [h.ev h14, e56, (night_id hz (h.he 50) _).2 2 (fun _ => true) (fun _ => true) (fun _ _ => rfl)]
