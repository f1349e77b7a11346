theorem ShR.all {σ σ' : Mem} (h : ShR σ) (r : ∀ i, i ∈ [18, 19, 20, 21, 49, 50, 51, 52, 73, 74, 75, 76] → σ' i = σ i) : ShR σ' := fun s hs => by
  rw [r 73 (by decide), r 74 (by decide), r 75 (by decide), r 76 (by decide), r (18 + s) (by simp; omega), r (49 + s) (by simp; omega)]; exact h s hs
theorem TaR.all {σ σ' : Mem} (h : TaR σ) (r : ∀ i, i ∈ [4, 41, 42, 43, 68, 69, 70] → σ' i = σ i) (f : σ' 1 22 = σ 1 22) : TaR σ' := by
  unfold TaR at *
  rw [f, r 4 (by decide), r 41 (by decide), r 42 (by decide), r 43 (by decide), r 68 (by decide), r 69 (by decide), r 70 (by decide)]; exact h
theorem mem_ne {i j : Nat} {l : List Nat} (h : i ∈ l) (hj : j ∉ l) : i ≠ j := fun q => hj (q ▸ h)
theorem st_find {σ σ1 σ2 : Mem} {n : Int} (hJ : JJ σ) (c : σ1 = up σ 0 7 n) (hI : InvC σ1) (d : ∃ σ0, FrM σ1 σ0 ∧ σ2 = up σ0 1 33 n) : JJ σ2 := by
  obtain ⟨σ0, F, e⟩ := d
  have r1 : ∀ i, i ≠ 0 → σ1 i = σ i := fun i hi => by rw [c, up_row hi]
  have r2 : ∀ i, i ≠ 1 → σ2 i = σ0 i := fun i hi => by rw [e, up_row hi]
  have f2 : ∀ k, k ≠ 33 → σ2 1 k = σ0 1 k := fun k hk => by rw [e, up_n (fun q => hk q.2)]
  have R1 : Rel σ1 := hJ.2.1.all (fun i hi => r1 i (mem_ne hi (by decide))) ⟨by rw [r1 1 (by decide)], by rw [r1 1 (by decide)], by rw [r1 1 (by decide)]⟩
  have T1 : TaR σ1 := hJ.2.2.1.all (fun i hi => r1 i (mem_ne hi (by decide))) (by rw [r1 1 (by decide)])
  have S1 : ShR σ1 := hJ.2.2.2.1.all (fun i hi => r1 i (mem_ne hi (by decide)))
  have S0 : ShR σ0 := S1.all (fun i hi => F.1 i (fun w => by simp only [List.mem_cons, List.not_mem_nil, or_false] at hi w; omega))
  refine ⟨(hI.mm F.1).all (fun i hi => r2 i (mem_ne hi (by decide))), (R1.mm F).all (fun i hi => r2 i (mem_ne hi (by decide))) ⟨f2 11 (by decide), f2 12 (by decide), f2 13 (by decide)⟩, (T1.mm F).all (fun i hi => r2 i (mem_ne hi (by decide))) (f2 22 (by decide)), S0.all (fun i hi => r2 i (mem_ne hi (by decide))), ?_⟩
  rw [r2 0 (by decide), F.1 0 (by decide), c, up_s, e, up_s]
theorem st_find0 {σ σ1 σ2 : Mem} {n : Int} (hJ : JJ σ) (c : σ1 = up σ 0 7 n) (hI : InvC σ1) (d : σ2 = up σ1 1 33 n) : JJ σ2 := st_find hJ c hI ⟨σ1, FrM.rf, d⟩
theorem st_law {σ σ1 σ2 : Mem} {w v z1 z2 : Int} (hJ : JJ σ) (c : (¬ ((0 ≤ w ∧ w < 3) ∧ (sv 2 w ≤ v ∧ v ≤ sv 3 w)) ∧ z1 = -2 ∧ σ1 = σ) ∨ (((0 ≤ w ∧ w < 3) ∧ (sv 2 w ≤ v ∧ v ≤ sv 3 w)) ∧ z1 = σ 25 w ∧ σ1 = up σ 25 w v ∧ InvC σ1))
    (d : (¬ ((0 ≤ w ∧ w < 3) ∧ (sv 2 w ≤ v ∧ v ≤ sv 3 w)) ∧ z2 = -2 ∧ σ2 = σ1) ∨ (((0 ≤ w ∧ w < 3) ∧ (sv 2 w ≤ v ∧ v ≤ sv 3 w)) ∧ z2 = σ1 1 (11 + w) ∧ ∀ i k, σ2 i k = if i = 1 ∧ k = 11 + w then v else σ1 i k)) : z1 = z2 ∧ JJ σ2 := by
  rcases c with ⟨c1, c2, c3⟩ | ⟨c1, c2, c3, c4⟩
  · rcases d with ⟨d1, d2, d3⟩ | ⟨d1, -⟩
    · rw [d3, c3]; exact ⟨by omega, hJ⟩
    · exact absurd d1 c1
  · rcases d with ⟨d1, -⟩ | ⟨d1, d2, d3⟩
    · exact absurd c1 d1
    · have r2 : ∀ i, i ≠ 1 → σ2 i = σ1 i := fun i hi => funext (fun k => by rw [d3, if_neg (fun q => hi q.1)])
      have r1 : ∀ i, i ≠ 25 → σ1 i = σ i := fun i hi => by rw [c3, up_row hi]
      have f2 : ∀ k, k ≠ 11 + w → σ2 1 k = σ1 1 k := fun k hk => by rw [d3, if_neg (fun q => hk q.2)]
      have fw : σ2 1 (11 + w) = v := by rw [d3, if_pos ⟨rfl, rfl⟩]
      obtain ⟨⟨a1, a2, a3, l1, l2, l3⟩, b, s, f⟩ := hJ.2
      have g25 : ∀ k, k ≠ w → σ2 25 k = σ 25 k := fun k hk => by rw [r2 25 (by decide), c3, up_n (fun q => hk q.2)]
      have gw : σ2 25 w = v := by rw [r2 25 (by decide), c3, up_s]
      refine ⟨?_, c4.all (fun i hi => r2 i (mem_ne hi (by decide))), ⟨?_, ?_, ?_, ?_⟩, ?_, ?_, ?_⟩
      · rw [c2, d2, r1 1 (by decide)]
        rcases (show w = 0 ∨ w = 1 ∨ w = 2 by omega) with rfl | rfl | rfl
        · exact l1.symm
        · exact l2.symm
        · exact l3.symm
      · unfold MtOK
        rw [r2 53 (by decide), r1 53 (by decide), r2 54 (by decide), r1 54 (by decide)]; exact a1
      · rw [r2 53 (by decide), r1 53 (by decide), r2 16 (by decide), r1 16 (by decide), r2 17 (by decide), r1 17 (by decide)]; exact a2
      · rw [r2 54 (by decide), r1 54 (by decide), r2 16 (by decide), r1 16 (by decide), r2 17 (by decide), r1 17 (by decide), r2 29 (by decide), r1 29 (by decide), r2 30 (by decide), r1 30 (by decide)]; exact a3
      · rcases (show w = 0 ∨ w = 1 ∨ w = 2 by omega) with rfl | rfl | rfl
        · exact ⟨fw.trans gw.symm, by rw [f2 12 (by decide), r1 1 (by decide), g25 1 (by decide)]; exact l2, by rw [f2 13 (by decide), r1 1 (by decide), g25 2 (by decide)]; exact l3⟩
        · exact ⟨by rw [f2 11 (by decide), r1 1 (by decide), g25 0 (by decide)]; exact l1, fw.trans gw.symm, by rw [f2 13 (by decide), r1 1 (by decide), g25 2 (by decide)]; exact l3⟩
        · exact ⟨by rw [f2 11 (by decide), r1 1 (by decide), g25 0 (by decide)]; exact l1, by rw [f2 12 (by decide), r1 1 (by decide), g25 1 (by decide)]; exact l2, fw.trans gw.symm⟩
      · exact b.all (fun i hi => by rw [r2 i (mem_ne hi (by decide)), r1 i (mem_ne hi (by decide))]) (by rw [f2 22 (by omega), r1 1 (by decide)])
      · exact s.all (fun i hi => by rw [r2 i (mem_ne hi (by decide)), r1 i (mem_ne hi (by decide))])
      · rw [f2 33 (by omega), r1 1 (by decide), r2 0 (by decide), r1 0 (by decide)]; exact f
theorem st_tales {σ σ1 σ2 : Mem} (hJ : JJ σ) (hI : InvC σ1) (r1 : ∀ i, i ∉ [4, 41, 42, 43] → σ1 i = σ i) (r2 : ∀ i, i ∉ [1, 68, 69, 70] → σ2 i = σ1 i) (f2 : ∀ k, k ≠ 22 → σ2 1 k = σ1 1 k) (t : TaR σ2) : JJ σ2 := by
  have rr : ∀ i, i ∉ [1, 4, 41, 42, 43, 68, 69, 70] → σ2 i = σ i := fun i hi => by
    rw [r2 i (fun w => hi (by simp only [List.mem_cons, List.not_mem_nil, or_false] at *; omega)), r1 i (fun w => hi (by simp only [List.mem_cons, List.not_mem_nil, or_false] at *; omega))]
  have nm : ∀ {i : Nat} {l : List Nat}, i ∈ l → (∀ j ∈ [1, 4, 41, 42, 43, 68, 69, 70], j ∉ l) → σ2 i = σ i := fun h q => rr _ (fun w => q _ w h)
  refine ⟨hI.all (fun i hi => r2 i (fun w => by simp only [List.mem_cons, List.not_mem_nil, or_false] at hi w; omega)), hJ.2.1.all (fun i hi => nm hi (by decide)) ⟨by rw [f2 11 (by decide), r1 1 (by decide)], by rw [f2 12 (by decide), r1 1 (by decide)], by rw [f2 13 (by decide), r1 1 (by decide)]⟩, t, hJ.2.2.2.1.all (fun i hi => nm hi (by decide)), ?_⟩
  rw [f2 33 (by decide), r1 1 (by decide), rr 0 (by decide)]; exact hJ.2.2.2.2
theorem st_told {σ σ1 σ2 : Mem} {a b c z1 z2 : Int} (hJ : JJ σ) (hc : (¬ tokP a b c ∧ z1 = -2 ∧ σ1 = σ) ∨ (tokP a b c ∧ σ 4 3 = 8 ∧ z1 = -4 ∧ σ1 = σ) ∨ (tokP a b c ∧ σ 4 3 < 8 ∧ z1 = σ 4 3 + 1 ∧ σ1 = up (up (up (up σ 41 (σ 4 3) a) 42 (σ 4 3) b) 43 (σ 4 3) c) 4 3 (σ 4 3 + 1) ∧ InvC σ1)) :
    (0 ≤ σ1 1 22 ∧ σ1 1 22 ≤ 8) ∧ ((¬ tokP a b c ∧ z2 = -2 ∧ σ2 = σ1) ∨ (tokP a b c ∧ σ1 1 22 = 8 ∧ z2 = -4 ∧ σ2 = σ1) ∨ (tokP a b c ∧ σ1 1 22 < 8 ∧ z2 = σ1 1 22 + 1 ∧ σ2 = tlM σ1 a b c) → z1 = z2 ∧ JJ σ2) := by
  have tn := hJ.tn
  have e22 := hJ.2.2.1.1
  rcases hc with ⟨c1, c2, c3⟩ | ⟨c1, c2, c3, c4⟩ | ⟨c1, c2, c3, c4, c5⟩
  · subst c3
    refine ⟨tn, fun d => ?_⟩
    rcases d with ⟨d1, d2, d3⟩ | ⟨d1, -⟩ | ⟨d1, -⟩
    · rw [d3]; exact ⟨by omega, hJ⟩
    · exact absurd d1 c1
    · exact absurd d1 c1
  · subst c4
    refine ⟨tn, fun d => ?_⟩
    rcases d with ⟨d1, -⟩ | ⟨d1, d2, d3, d4⟩ | ⟨d1, d2, -⟩
    · exact absurd c1 d1
    · rw [d4]; exact ⟨by omega, hJ⟩
    · omega
  · have r1 : ∀ i, i ∉ [4, 41, 42, 43] → σ1 i = σ i := fun i hi => by
      simp only [List.mem_cons, List.not_mem_nil, or_false, not_or] at hi
      rw [c4, up_row hi.1, up_row hi.2.2.2, up_row hi.2.2.1, up_row hi.2.1]
    have k1 : σ1 1 = σ 1 := r1 1 (by decide)
    refine ⟨by rw [k1]; exact tn, fun d => ?_⟩
    rcases d with ⟨d1, -⟩ | ⟨d1, d2, -⟩ | ⟨d1, d2, d3, d4⟩
    · exact absurd c1 d1
    · rw [k1] at d2; omega
    · rw [k1] at d3
      unfold tlM at d4
      rw [k1] at d4
      have r2 : ∀ i, i ∉ [1, 68, 69, 70] → σ2 i = σ1 i := fun i hi => by
        simp only [List.mem_cons, List.not_mem_nil, or_false, not_or] at hi
        rw [d4, up_row hi.1, up_row hi.2.2.2, up_row hi.2.2.1, up_row hi.2.1]
      refine ⟨by omega, st_tales hJ c5 r1 r2 (fun k hk => by rw [d4, up_n (fun q => hk q.2), up_i (by decide), up_i (by decide), up_i (by decide)]) ⟨?_, fun k q1 q2 => ?_⟩⟩
      · rw [r2 4 (by decide), c4, up_s, d4, up_s, e22]
      · rw [r2 4 (by decide), c4, up_s] at q2
        rw [r2 41 (by decide), r2 42 (by decide), r2 43 (by decide), d4, c4]
        by_cases w : k = σ 4 3
        · rw [w]; simp [up, e22]
        · have := hJ.2.2.1.2 k q1 (by omega)
          simp [up, e22, w]
          exact this
theorem st_forget {σ σ1 σ2 : Mem} {z1 z2 : Int} (hJ : JJ σ) (c : z1 = σ 4 3 ∧ σ1 = up σ 4 3 0 ∧ InvC σ1) (d : z2 = σ1 1 22 ∧ σ2 = up σ1 1 22 0) : z1 = z2 ∧ JJ σ2 := by
  obtain ⟨c1, c2, c3⟩ := c
  obtain ⟨d1, d2⟩ := d
  have r1 : ∀ i, i ∉ [4, 41, 42, 43] → σ1 i = σ i := fun i hi => by rw [c2, up_row (fun q => hi (by rw [q]; decide))]
  have r2 : ∀ i, i ∉ [1, 68, 69, 70] → σ2 i = σ1 i := fun i hi => by rw [d2, up_row (fun q => hi (by rw [q]; decide))]
  refine ⟨by rw [c1, d1, r1 1 (by decide)]; exact hJ.2.2.1.1.symm, st_tales hJ c3 r1 r2 (fun k hk => by rw [d2, up_n (fun q => hk q.2)]) ⟨?_, fun k q1 q2 => ?_⟩⟩
  · rw [r2 4 (by decide), c2, up_s, d2, up_s]
  · rw [r2 4 (by decide), c2, up_s] at q2; omega
theorem rd_it {σ : Mem} (hJ : JJ σ) {s : Int} (hs : 0 ≤ s ∧ s < 4) : (σ 73 s = 1 - σ (18 + s.toNat) 1 ∧ σ 74 s = σ (18 + s.toNat) 2 ∧ σ 75 s = σ (18 + s.toNat) 3 ∧ ∀ i, 0 ≤ i → i < 60 → σ 76 (60 * s + i) = σ (49 + s.toNat) i) ∧ (σ (18 + s.toNat) 1 = 0 ∨ σ (18 + s.toNat) 1 = 1) ∧ (0 ≤ σ (18 + s.toNat) 2 ∧ σ (18 + s.toNat) 2 < 3) ∧ (0 ≤ σ (18 + s.toNat) 3 ∧ σ (18 + s.toNat) 3 ≤ 60) := by
  have := hJ.2.2.2.1 s.toNat (by omega)
  rw [show ((s.toNat : Nat) : Int) = s by omega] at this
  exact ⟨this, hJ.1.2.2.2.2.2.1 s.toNat (by omega)⟩
theorem rd_iff {it it' : Int → Int} {sz n0 k : Int} (h : ∀ i, 0 ≤ i → i < 60 → it' i = it i) (hs : sz ≤ 60) (hk : 0 ≤ k) : RdOk it' sz n0 k ↔ RdOk it sz n0 k := by
  unfold RdOk
  constructor
  · rintro ⟨a, b, c⟩
    rw [h _ (by omega) (by omega), h _ (by omega) (by omega), h _ (by omega) (by omega)] at c
    exact ⟨a, b, c⟩
  · rintro ⟨a, b, c⟩
    rw [← h _ (by omega) (by omega), ← h _ (by omega) (by omega), ← h _ (by omega) (by omega)] at c
    exact ⟨a, b, c⟩
theorem st_read {σ σ1 σ2 : Mem} {s z1 z2 : Int} (hJ : JJ σ) (hc : (¬ (0 ≤ s ∧ s < 4) ∧ z1 = -2 ∧ σ1 = σ) ∨ ((0 ≤ s ∧ s < 4) ∧ σ (18 + s.toNat) 1 = 1 ∧ z1 = -10 - 1 ∧ σ1 = up σ 0 7 1 ∧ InvC σ1) ∨ ((0 ≤ s ∧ s < 4) ∧ σ (18 + s.toNat) 1 = 0 ∧ RdQ (σ (49 + s.toNat)) (σ (18 + s.toNat) 3) (σ 4 3) z1 ∧ RdR σ σ1 (σ (49 + s.toNat)) z1 ∧ InvC σ1)) :
    ((0 ≤ σ1 1 22 ∧ σ1 1 22 ≤ 8) ∧ (∀ s, 0 ≤ s → s < 4 → (σ1 73 s = 0 ∨ σ1 73 s = 1) ∧ (0 ≤ σ1 74 s ∧ σ1 74 s < 3) ∧ (0 ≤ σ1 75 s ∧ σ1 75 s ≤ 60))) ∧ ((¬ (0 ≤ s ∧ s < 4) ∧ z2 = -2 ∧ σ2 = σ1) ∨ ((0 ≤ s ∧ s < 4) ∧ σ1 73 s = 0 ∧ z2 = -10 - 1 ∧ σ2 = up σ1 1 33 1) ∨ ((0 ≤ s ∧ s < 4) ∧ σ1 73 s ≠ 0 ∧ RdQ (fun i => σ1 76 (60 * s + i)) (σ1 75 s) (σ1 1 22) z2 ∧ RdM σ1 σ2 (fun i => σ1 76 (60 * s + i)) z2) → z1 = z2 ∧ JJ σ2) := by
  have tn := hJ.tn
  have sh := hJ.sh
  rcases hc with ⟨c1, c2, c3⟩ | ⟨c1, c2, c3, c4, c5⟩ | ⟨c1, c2, c3, c4, c5⟩
  · subst c3
    refine ⟨⟨tn, sh⟩, fun d => ?_⟩
    rcases d with ⟨d1, d2, d3⟩ | ⟨d1, -⟩ | ⟨d1, -⟩
    · rw [d3]; exact ⟨by omega, hJ⟩
    · exact absurd d1 c1
    · exact absurd d1 c1
  · have r1 : ∀ i, i ≠ 0 → σ1 i = σ i := fun i hi => by rw [c4, up_row hi]
    have hz := (rd_it hJ c1).1.1
    refine ⟨by rw [r1 1 (by decide), r1 73 (by decide), r1 74 (by decide), r1 75 (by decide)]; exact ⟨tn, sh⟩, fun d => ?_⟩
    rcases d with ⟨d1, -⟩ | ⟨d1, d2, d3, d4⟩ | ⟨d1, d2, -⟩
    · exact absurd c1 d1
    · exact ⟨by omega, st_find0 hJ c4 c5 d4⟩
    · rw [r1 73 (by decide)] at d2; omega
  · have r1 := c4.1
    obtain ⟨⟨hz, -, h75, h76⟩, -, -, hsz⟩ := rd_it hJ c1
    have k1 : σ1 1 = σ 1 := r1 1 (by decide)
    have e22 := hJ.2.2.1.1
    refine ⟨by rw [k1, r1 73 (by decide), r1 74 (by decide), r1 75 (by decide)]; exact ⟨tn, sh⟩, fun d => ?_⟩
    rcases d with ⟨d1, -⟩ | ⟨d1, d2, -⟩ | ⟨d1, d2, d3, d4⟩
    · exact absurd c1 d1
    · rw [r1 73 (by decide)] at d2; omega
    · rw [r1 76 (by decide), r1 75 (by decide), k1, h75, e22] at d3
      rw [r1 76 (by decide)] at d4
      have hzz : z1 = z2 := RdQ_un c3 ⟨d3.1, fun k q1 q2 => (rd_iff h76 hsz.2 q1).mp (d3.2.1 k q1 q2), fun q => d3.2.2 ((rd_iff h76 hsz.2 d3.1).mpr q)⟩
      refine ⟨hzz, st_tales hJ c5 r1 d4.1 d4.2.1 ⟨?_, fun k q1 q2 => ?_⟩⟩
      · rw [d4.2.2.1, d4.1 4 (by decide), c4.2.1, k1, e22, hzz]
      · rw [d4.1 4 (by decide), c4.2.1] at q2
        rw [d4.1 41 (by decide), d4.1 42 (by decide), d4.1 43 (by decide)]
        rcases Int.lt_or_le k (σ 4 3) with w | w
        · have a := d4.2.2.2.2 k (by rw [k1, e22]; exact w)
          have b := c4.2.2.2 k w
          have t := hJ.2.2.1.2 k q1 w
          rw [a.1, a.2.1, a.2.2, b.1, b.2.1, b.2.2, r1 68 (by decide), r1 69 (by decide), r1 70 (by decide)]; exact t
        · have a := d4.2.2.2.1 (k - σ 4 3) (by omega) (by omega)
          have b := c4.2.2.1 (k - σ 4 3) (by omega) (by omega)
          have ok := c3.2.1 (k - σ 4 3) (by omega) (by omega)
          rw [k1, e22, show σ 4 3 + (k - σ 4 3) = k by omega] at a
          rw [show σ 4 3 + (k - σ 4 3) = k by omega] at b
          have o1 := ok.1
          rw [a.1, a.2.1, a.2.2, b.1, b.2.1, b.2.2]
          exact ⟨h76 _ (by omega) (by omega), h76 _ (by omega) (by omega), h76 _ (by omega) (by omega)⟩
