theorem st_copy {σ σ1 σ2 : Mem} {s i t j n z1 z2 : Int} (hJ : JJ σ) (c : (¬ ((0 ≤ s ∧ s < 4) ∧ (0 ≤ t ∧ t < 4)) ∧ z1 = -2 ∧ σ1 = σ) ∨ (((0 ≤ s ∧ s < 4) ∧ (0 ≤ t ∧ t < 4)) ∧ (σ (18 + s.toNat) 1 = 1 ∨ σ (18 + t.toNat) 1 = 1) ∧ z1 = -10 - 1 ∧ σ1 = up σ 0 7 1 ∧ InvC σ1) ∨ (((0 ≤ s ∧ s < 4) ∧ (0 ≤ t ∧ t < 4)) ∧ (σ (18 + s.toNat) 1 = 0 ∧ σ (18 + t.toNat) 1 = 0) ∧ σ (18 + s.toNat) 2 ≠ σ (18 + t.toNat) 2 ∧ z1 = -10 - 4 ∧ σ1 = up σ 0 7 4 ∧ InvC σ1) ∨ (((0 ≤ s ∧ s < 4) ∧ (0 ≤ t ∧ t < 4)) ∧ (σ (18 + s.toNat) 1 = 0 ∧ σ (18 + t.toNat) 1 = 0) ∧ σ (18 + s.toNat) 2 = σ (18 + t.toNat) 2 ∧ ¬ (hldP (σ (18 + s.toNat)) i n ∧ hldP (σ (18 + t.toNat)) j n) ∧ z1 = -10 - 2 ∧ σ1 = up σ 0 7 2 ∧ InvC σ1) ∨ (((0 ≤ s ∧ s < 4) ∧ (0 ≤ t ∧ t < 4)) ∧ (σ (18 + s.toNat) 1 = 0 ∧ σ (18 + t.toNat) 1 = 0) ∧ σ (18 + s.toNat) 2 = σ (18 + t.toNat) 2 ∧ (hldP (σ (18 + s.toNat)) i n ∧ hldP (σ (18 + t.toNat)) j n) ∧ z1 = 1 ∧ σ1 = cpM σ (49 + s.toNat) i (49 + t.toNat) j n ∧ InvC σ1)) :
    (∀ s, 0 ≤ s → s < 4 → (σ1 73 s = 0 ∨ σ1 73 s = 1) ∧ (0 ≤ σ1 74 s ∧ σ1 74 s < 3) ∧ (0 ≤ σ1 75 s ∧ σ1 75 s ≤ 60)) ∧ ((¬ ((0 ≤ s ∧ s < 4) ∧ (0 ≤ t ∧ t < 4)) ∧ z2 = -2 ∧ σ2 = σ1) ∨ (((0 ≤ s ∧ s < 4) ∧ (0 ≤ t ∧ t < 4)) ∧ ¬ (σ1 73 s ≠ 0 ∧ σ1 73 t ≠ 0) ∧ z2 = -10 - 1 ∧ σ2 = up σ1 1 33 1) ∨ (((0 ≤ s ∧ s < 4) ∧ (0 ≤ t ∧ t < 4)) ∧ (σ1 73 s ≠ 0 ∧ σ1 73 t ≠ 0) ∧ σ1 74 s ≠ σ1 74 t ∧ z2 = -10 - 4 ∧ σ2 = up σ1 1 33 4) ∨ (((0 ≤ s ∧ s < 4) ∧ (0 ≤ t ∧ t < 4)) ∧ (σ1 73 s ≠ 0 ∧ σ1 73 t ≠ 0) ∧ σ1 74 s = σ1 74 t ∧ ¬ ((0 ≤ i ∧ 0 ≤ n ∧ i + n ≤ σ1 75 s) ∧ (0 ≤ j ∧ 0 ≤ n ∧ j + n ≤ σ1 75 t)) ∧ z2 = -10 - 2 ∧ σ2 = up σ1 1 33 2) ∨ (((0 ≤ s ∧ s < 4) ∧ (0 ≤ t ∧ t < 4)) ∧ (σ1 73 s ≠ 0 ∧ σ1 73 t ≠ 0) ∧ σ1 74 s = σ1 74 t ∧ ((0 ≤ i ∧ 0 ≤ n ∧ i + n ≤ σ1 75 s) ∧ (0 ≤ j ∧ 0 ≤ n ∧ j + n ≤ σ1 75 t)) ∧ z2 = 1 ∧ mcpQ σ1 σ2 (60 * s + i) (60 * t + j) n) → z1 = z2 ∧ JJ σ2) := by
  rcases c with ⟨c1, c2, c3⟩ | c
  · subst c3
    refine ⟨hJ.sh, fun d => ?_⟩
    rcases d with ⟨d1, d2, d3⟩ | ⟨d1, -⟩ | ⟨d1, -⟩ | ⟨d1, -⟩ | ⟨d1, -⟩
    · rw [d3]; exact ⟨by omega, hJ⟩
    · exact absurd d1 c1
    · exact absurd d1 c1
    · exact absurd d1 c1
    · exact absurd d1 c1
  · have hst : (0 ≤ s ∧ s < 4) ∧ (0 ≤ t ∧ t < 4) := by
      rcases c with c | c | c | c <;> exact c.1
    obtain ⟨⟨h1, h2, h3, h6⟩, h4, h5, h8⟩ := rd_it hJ hst.1
    obtain ⟨⟨g1, g2, g3, g6⟩, g4, g5, g8⟩ := rd_it hJ hst.2
    have rr : σ1 73 = σ 73 ∧ σ1 74 = σ 74 ∧ σ1 75 = σ 75 ∧ σ1 76 = σ 76 := by
      rcases c with ⟨-, -, -, c4, -⟩ | ⟨-, -, -, -, c4, -⟩ | ⟨-, -, -, -, -, c4, -⟩ | ⟨-, -, -, -, -, c4, -⟩
      · rw [c4, up_row (by decide), up_row (by decide), up_row (by decide), up_row (by decide)]; exact ⟨rfl, rfl, rfl, rfl⟩
      · rw [c4, up_row (by decide), up_row (by decide), up_row (by decide), up_row (by decide)]; exact ⟨rfl, rfl, rfl, rfl⟩
      · rw [c4, up_row (by decide), up_row (by decide), up_row (by decide), up_row (by decide)]; exact ⟨rfl, rfl, rfl, rfl⟩
      · rw [c4]
        refine ⟨funext (fun k => ?_), funext (fun k => ?_), funext (fun k => ?_), funext (fun k => ?_)⟩ <;> (unfold cpM; rw [if_neg (by omega)])
    refine ⟨hJ.sh1 ⟨rr.1, rr.2.1, rr.2.2.1⟩, fun d => ?_⟩
    unfold hldP at c
    rw [rr.1, rr.2.1, rr.2.2.1, h1, h2, h3, g1, g2, g3] at d
    rcases c with ⟨c1, c2, c3, c4, c5⟩ | ⟨c1, c2, c3, c4, c5, c6⟩ | ⟨c1, c2, c3, c4, c5, c6, c7⟩ | ⟨c1, c2, c3, c4, c5, c6, c7⟩
    · rcases d with ⟨d1, -⟩ | ⟨d1, d2, d3, d4⟩ | ⟨d1, d2, -⟩ | ⟨d1, d2, -⟩ | ⟨d1, d2, -⟩
      · exact absurd c1 d1
      · exact ⟨by omega, st_find0 hJ c4 c5 d4⟩
      · omega
      · omega
      · omega
    · rcases d with ⟨d1, -⟩ | ⟨d1, d2, -⟩ | ⟨d1, d2, d3, d4, d5⟩ | ⟨d1, d2, d3, -⟩ | ⟨d1, d2, d3, -⟩
      · exact absurd c1 d1
      · omega
      · exact ⟨by omega, st_find0 hJ c5 c6 d5⟩
      · exact absurd d3 c3
      · exact absurd d3 c3
    · rcases d with ⟨d1, -⟩ | ⟨d1, d2, -⟩ | ⟨d1, d2, d3, -⟩ | ⟨d1, d2, d3, d4, d5, d6⟩ | ⟨d1, d2, d3, d4, -⟩
      · exact absurd c1 d1
      · omega
      · exact absurd c3 d3
      · exact ⟨by omega, st_find0 hJ c6 c7 d6⟩
      · exact absurd d4 c4
    · rcases d with ⟨d1, -⟩ | ⟨d1, d2, -⟩ | ⟨d1, d2, d3, -⟩ | ⟨d1, d2, d3, d4, -⟩ | ⟨d1, d2, d3, d4, d5, d6⟩
      · exact absurd c1 d1
      · omega
      · exact absurd c3 d3
      · exact absurd c4 d4
      · obtain ⟨e0, e1⟩ := d6
        have r1 : ∀ q, q ≠ 49 + t.toNat → σ1 q = σ q := fun q hq => by
          rw [c6]; funext k; unfold cpM; rw [if_neg (fun w => hq w.1)]
        refine ⟨by omega, st_sheets hJ c7 (fun q _ hq => r1 q (fun w => hq (by simp only [List.mem_cons, List.not_mem_nil, or_false]; omega))) (fun q hq hq2 => e0 q (fun w => by simp only [List.mem_cons, List.not_mem_nil, or_false, not_or] at hq hq2 w; omega)) (fun k _ _ _ _ => by rw [e0 1 (by decide)]) (fun u hu => ?_)⟩
        have old := hJ.2.2.2.1 u hu
        rw [e0 73 (by decide), e0 74 (by decide), e0 75 (by decide), e0 (18 + u) (by simp; omega), e0 (49 + u) (by simp; omega), rr.1, rr.2.1, rr.2.2.1, r1 (18 + u) (by omega)]
        refine ⟨old.1, old.2.1, old.2.2.1, fun k k1 k2 => ?_⟩
        rw [e1, rr.2.2.2, c6]
        unfold cpM
        by_cases w : u = t.toNat ∧ j ≤ k ∧ k < j + n
        · rw [if_pos (by omega), if_pos (by omega), show 60 * s + i + (60 * (u : Int) + k - (60 * t + j)) = 60 * s + (i + (k - j)) by omega]
          exact h6 _ (by omega) (by omega)
        · rw [if_neg (by omega), if_neg (by omega)]
          exact old.2.2.2 k k1 k2
theorem st_write {σ σ1 σ2 : Mem} {s t z1 z2 : Int} (hJ : JJ σ) (c : (¬ ((0 ≤ s ∧ s < σ 0 2) ∧ (0 ≤ t ∧ t < 4)) ∧ z1 = -2 ∧ σ1 = σ) ∨ (((0 ≤ s ∧ s < σ 0 2) ∧ (0 ≤ t ∧ t < 4)) ∧ σ (18 + t.toNat) 1 = 1 ∧ z1 = -10 - 1 ∧ σ1 = up σ 0 7 1 ∧ InvC σ1) ∨ (((0 ≤ s ∧ s < σ 0 2) ∧ (0 ≤ t ∧ t < 4)) ∧ σ (18 + t.toNat) 1 = 0 ∧ z1 = min 50 (σ (18 + t.toNat) 3) ∧ InvC σ1 ∧ (∀ i, i ∉ SC → i ≠ 49 + t.toNat → σ1 i = σ i) ∧ ∀ x, σ1 (49 + t.toNat) x = if 0 ≤ x ∧ x < z1 then cutF (σ (18 + t.toNat) 2) (dpH σ s.toNat x) else σ (49 + t.toNat) x)) :
    (InvC σ1 ∧ Rel σ1 ∧ (∀ s, 0 ≤ s → s < 4 → (σ1 73 s = 0 ∨ σ1 73 s = 1) ∧ (0 ≤ σ1 74 s ∧ σ1 74 s < 3) ∧ (0 ≤ σ1 75 s ∧ σ1 75 s ≤ 60))) ∧ ((¬ ((0 ≤ s ∧ s < σ1 0 2) ∧ (0 ≤ t ∧ t < 4)) ∧ z2 = -2 ∧ FrM σ1 σ2) ∨ (((0 ≤ s ∧ s < σ1 0 2) ∧ (0 ≤ t ∧ t < 4)) ∧ σ1 73 t = 0 ∧ z2 = -10 - 1 ∧ ∃ σ0, FrM σ1 σ0 ∧ σ2 = up σ0 1 33 1) ∨ (((0 ≤ s ∧ s < σ1 0 2) ∧ (0 ≤ t ∧ t < 4)) ∧ σ1 73 t ≠ 0 ∧ z2 = min 50 (σ1 75 t) ∧ FrW σ1 σ2 ∧ ∀ x, σ2 76 x = if 60 * t ≤ x ∧ x < 60 * t + z2 then cutF (σ1 74 t) (dpH σ1 s.toNat (x - 60 * t)) else σ1 76 x) → z1 = z2 ∧ JJ σ2) := by
  rcases c with ⟨c1, c2, c3⟩ | ⟨c1, c2, c3, c4, c5⟩ | ⟨c1, c2, c3, c4, c5, c6⟩
  · subst c3
    refine ⟨⟨hJ.1, hJ.2.1, hJ.sh⟩, fun d => ?_⟩
    rcases d with ⟨d1, d2, d3⟩ | ⟨d1, -⟩ | ⟨d1, -⟩
    · exact ⟨by omega, hJ.fm d3⟩
    · exact absurd d1 c1
    · exact absurd d1 c1
  · have r1 : ∀ i, i ≠ 0 → σ1 i = σ i := fun i hi => by rw [c4, up_row hi]
    have hz := (rd_it hJ c1.2).1.1
    have h02 : σ1 0 2 = σ 0 2 := by rw [c4, up_n (by decide)]
    refine ⟨⟨c5, hJ.2.1.all (fun i hi => r1 i (mem_ne hi (by decide))) ⟨by rw [r1 1 (by decide)], by rw [r1 1 (by decide)], by rw [r1 1 (by decide)]⟩, hJ.sh1 ⟨r1 73 (by decide), r1 74 (by decide), r1 75 (by decide)⟩⟩, fun d => ?_⟩
    rw [h02] at d
    rcases d with ⟨d1, -⟩ | ⟨d1, d2, d3, d4⟩ | ⟨d1, d2, -⟩
    · exact absurd c1 d1
    · exact ⟨by omega, st_find hJ c4 c5 d4⟩
    · rw [r1 73 (by decide)] at d2; omega
  · have ns := hJ.1.ns
    have nt : ∀ q, q ≤ 36 ∨ 53 ≤ q → q ≠ 49 + t.toNat := fun q hq => by omega
    have r1 : ∀ i, i ∈ [0, 1, 2, 4, 16, 17, 18, 19, 20, 21, 25, 29, 30, 33, 34, 35, 41, 42, 43, 53, 54, 68, 69, 70, 73, 74, 75, 76] → σ1 i = σ i := fun i hi => c5 i (fun w => by simp only [List.mem_cons, List.not_mem_nil, or_false] at hi w; omega) (fun w => by simp only [List.mem_cons, List.not_mem_nil, or_false] at hi; omega)
    have hz := rd_it hJ c1.2
    refine ⟨⟨c4, hJ.2.1.all (fun i hi => r1 i (by simp only [List.mem_cons, List.not_mem_nil, or_false] at *; omega)) ⟨by rw [r1 1 (by decide)], by rw [r1 1 (by decide)], by rw [r1 1 (by decide)]⟩, hJ.sh1 ⟨r1 73 (by decide), r1 74 (by decide), r1 75 (by decide)⟩⟩, fun d => ?_⟩
    rw [r1 0 (by decide)] at d
    rcases d with ⟨d1, -⟩ | ⟨d1, d2, -⟩ | ⟨d1, d2, d3, d4, d5⟩
    · exact absurd c1 d1
    · rw [r1 73 (by decide)] at d2; omega
    · rw [r1 75 (by decide), hz.1.2.2.1] at d3
      have ez : z1 = z2 := by omega
      have r2 : ∀ q, q ∉ MSC → q ≠ 76 → σ2 q = σ1 q := d4.1
      refine ⟨ez, st_sheets hJ c4 (fun i h1 h2 => c5 i h1 (fun w => h2 (by simp only [List.mem_cons, List.not_mem_nil, or_false]; omega))) (fun i h1 h2 => r2 i h1 (fun w => h2 (by rw [w]; decide))) d4.2 (fun u hu => ?_)⟩
      have old := hJ.2.2.2.1 u hu
      have e18 : σ1 (18 + u) = σ (18 + u) := c5 (18 + u) (by simp; omega) (by omega)
      rw [r2 73 (by decide) (by decide), r2 74 (by decide) (by decide), r2 75 (by decide) (by decide), r2 (18 + u) (by simp; omega) (by omega), r2 (49 + u) (by simp; omega) (by omega), r1 73 (by decide), r1 74 (by decide), r1 75 (by decide), e18]
      refine ⟨old.1, old.2.1, old.2.2.1, fun k k1 k2 => ?_⟩
      rw [d5]
      by_cases w : u = t.toNat
      · have wt : (u : Int) = t := by omega
        rw [w, c6, ← w, wt]
        by_cases q : k < z1
        · rw [if_pos (by omega), if_pos (by omega), show 60 * t + k - 60 * t = k by omega, r1 74 (by decide), hz.1.2.1, w]
          have ed : dpH σ1 s.toNat k = dpH σ s.toNat k := by
            unfold dpH
            rw [r1 2 (by decide), r1 33 (by decide), r1 34 (by decide), r1 35 (by decide), c5 (8 + s.toNat) (by simp; omega) (by omega)]
          rw [ed]
        · rw [if_neg (by omega), if_neg (by omega), r1 76 (by decide)]
          have := old.2.2.2 k k1 k2
          rw [wt] at this
          exact this
      · rw [if_neg (by omega), r1 76 (by decide), c5 (49 + u) (by simp; omega) (by omega)]
        exact old.2.2.2 k k1 k2
theorem st_ro {σ σ1 σ2 : Mem} (hJ : JJ σ) (c : Same SC σ σ1) (d : FrM σ1 σ2) : JJ σ2 := (hJ.sc c).fm d
theorem sm_cNt {σ σ' : Mem} (hs : Same SC σ σ') {s : Nat} (hs8 : s < 8) (w : Int) : cNt σ' s w = cNt σ s w := by
  unfold cNt
  rw [sm_cWk hs hs8, sm_many hs hs8]
theorem sm_cQg {σ σ' : Mem} (hs : Same SC σ σ') (h8 : σ 0 2 ≤ 8) (house sound i : Int) : cQg σ' house sound i = cQg σ house sound i := by
  unfold cQg
  rw [sm_qtQ hs h8, hs 2 (by decide)]
theorem sm_dSl {σ σ' : Mem} (hS : Same SC σ σ') (h8 : σ 0 2 ≤ 8) {s : Nat} (hs : s < 8) (h0 : Int) : dSl σ' s h0 = dSl σ s h0 := by
  unfold dSl
  rw [hS (8 + s) (by simp; omega), sm_dpH hS hs, sm_dpH hS hs, sm_dpH hS hs, sm_cWk hS hs, sm_many hS hs, sm_mvP hS h8 hs, sm_fdP hS hs]
theorem sm_dDd {σ σ' : Mem} (hS : Same SC σ σ') (h8 : σ 0 2 ≤ 8) (d h0 : Int) : dDd σ' d h0 = dDd σ d h0 := by
  have f1 : (fun w : Nat => w32 (cPf σ' d (w : Int))) = fun w : Nat => w32 (cPf σ d (w : Int)) := funext (fun w => by rw [sm_cPf hS h8])
  have f2 : (fun w : Nat => w32 (cDe σ' d (w : Int))) = fun w : Nat => w32 (cDe σ d (w : Int)) := funext (fun w => by rw [sm_cDe hS])
  unfold dDd
  rw [f1, f2, sm_plB hS h8, sm_cNd hS h8, sm_cNd hS h8, sm_fgM hS h8, sm_fgT hS h8, hS 0 (by decide)]
  exact itN_cg (fun s q h => by
    have f3 : (fun w : Nat => w32 (cHe σ' d s (w : Int))) = fun w : Nat => w32 (cHe σ d s (w : Int)) := funext (fun w => by rw [sm_cHe hS (by omega)])
    rw [f3]) _
theorem sm_dig {σ σ' : Mem} (hS : Same SC σ σ') (h8 : σ 0 2 ≤ 8) (h9 : σ 2 4 ≤ 8) : dig σ' = dig σ := by
  have f1 : (fun (q : Nat) (h : Int) => 31 * (31 * h + w32 (cQu σ' (q : Int) (-1))) + w32 (cQu σ' (q : Int) 0)) = fun (q : Nat) (h : Int) => 31 * (31 * h + w32 (cQu σ (q : Int) (-1))) + w32 (cQu σ (q : Int) 0) := funext (fun q => funext (fun h => by rw [sm_cQu hS h8, sm_cQu hS h8]))
  have f2 : (fun (d : Nat) (h : Int) => dDd σ' (d : Int) h) = fun (d : Nat) (h : Int) => dDd σ (d : Int) h := funext (fun d => funext (fun h => sm_dDd hS h8 _ _))
  have f3 : (fun w : Nat => w32 (cCt σ' (w : Int))) = fun w : Nat => w32 (cCt σ (w : Int)) := funext (fun w => by rw [sm_cCt hS h8])
  have f4 : ∀ x, itN (fun s h => dSl σ' s h) (σ 0 2).toNat x = itN (fun s h => dSl σ s h) (σ 0 2).toNat x := fun x => itN_cg (fun s q h => sm_dSl hS h8 (by omega) h) x
  unfold dig
  rw [f1, f2, f3, sm_best hS h8, sm_cBA hS h8, sm_nvB hS h8, sm_ask hS h8 h9, sm_crtP hS h8, sm_crtM hS h8, hS 0 (by decide), hS 2 (by decide), hS 29 (by decide), hS 30 (by decide), hS 16 (by decide), hS 17 (by decide), f4]
