/-- sheets alone have changed: class's cells 18 .. 21, 49 .. 52, model's 73 .. 77, and what a night leaves -/
theorem st_sheets {σ σ1 σ2 : Mem} (hJ : JJ σ) (hI : InvC σ1) (r1 : ∀ i, i ∉ SC → i ∉ [18, 19, 20, 21, 49, 50, 51, 52] → σ1 i = σ i) (r2 : ∀ i, i ∉ MSC → i ∉ [73, 74, 75, 76] → σ2 i = σ1 i) (f2 : ∀ k, k ≠ 2 → k ≠ 7 → k ≠ 14 → k ≠ 15 → σ2 1 k = σ1 1 k) (s : ShR σ2) : JJ σ2 := by
  have rr : ∀ i, i ∈ [0, 2, 4, 16, 17, 25, 29, 30, 41, 42, 43, 53, 54, 68, 69, 70] → σ2 i = σ i := fun i hi => by
    rw [r2 i (fun w => by simp only [List.mem_cons, List.not_mem_nil, or_false] at hi w; omega) (fun w => by simp only [List.mem_cons, List.not_mem_nil, or_false] at hi w; omega), r1 i (fun w => by simp only [List.mem_cons, List.not_mem_nil, or_false] at hi w; omega) (fun w => by simp only [List.mem_cons, List.not_mem_nil, or_false] at hi w; omega)]
  have r11 : σ1 1 = σ 1 := r1 1 (by decide) (by decide)
  have fk : ∀ k, k ≠ 2 → k ≠ 7 → k ≠ 14 → k ≠ 15 → σ2 1 k = σ 1 k := fun k a b c d => by rw [f2 k a b c d, r11]
  refine ⟨hI.all (fun i hi => r2 i (fun w => by simp only [List.mem_cons, List.not_mem_nil, or_false] at hi w; omega) (fun w => by simp only [List.mem_cons, List.not_mem_nil, or_false] at hi w; omega)), hJ.2.1.all (fun i hi => rr i (by simp only [List.mem_cons, List.not_mem_nil, or_false] at *; omega)) ⟨fk 11 (by decide) (by decide) (by decide) (by decide), fk 12 (by decide) (by decide) (by decide) (by decide), fk 13 (by decide) (by decide) (by decide) (by decide)⟩, hJ.2.2.1.all (fun i hi => rr i (by simp only [List.mem_cons, List.not_mem_nil, or_false] at *; omega)) (fk 22 (by decide) (by decide) (by decide) (by decide)), s, ?_⟩
  rw [fk 33 (by decide) (by decide) (by decide) (by decide), rr 0 (by decide)]; exact hJ.2.2.2.2
theorem JJ.sh1 {σ σ1 : Mem} (h : JJ σ) (r : σ1 73 = σ 73 ∧ σ1 74 = σ 74 ∧ σ1 75 = σ 75) : ∀ s, 0 ≤ s → s < 4 → (σ1 73 s = 0 ∨ σ1 73 s = 1) ∧ (0 ≤ σ1 74 s ∧ σ1 74 s < 3) ∧ (0 ≤ σ1 75 s ∧ σ1 75 s ≤ 60) := by
  rw [r.1, r.2.1, r.2.2]; exact h.sh
theorem st_sheet {σ σ1 σ2 : Mem} {s f n z1 z2 : Int} (hJ : JJ σ) (c : (¬ ((0 ≤ s ∧ s < 4) ∧ (0 ≤ f ∧ f < 3) ∧ n ≤ 60) ∧ z1 = -2 ∧ σ1 = σ) ∨ (((0 ≤ s ∧ s < 4) ∧ (0 ≤ f ∧ f < 3) ∧ n ≤ 60) ∧ n < 0 ∧ z1 = -10 - 5 ∧ σ1 = up σ 0 7 5 ∧ InvC σ1) ∨ (((0 ≤ s ∧ s < 4) ∧ (0 ≤ f ∧ f < 3) ∧ n ≤ 60) ∧ 0 ≤ n ∧ z1 = n ∧ σ1 = fillM (up (up (up σ (18 + s.toNat) 1 0) (18 + s.toNat) 2 f) (18 + s.toNat) 3 n) (49 + s.toNat) 60 0 ∧ InvC σ1))
    (d : (¬ ((0 ≤ s ∧ s < 4) ∧ (0 ≤ f ∧ f < 3) ∧ n ≤ 60) ∧ z2 = -2 ∧ σ2 = σ1) ∨ (((0 ≤ s ∧ s < 4) ∧ (0 ≤ f ∧ f < 3) ∧ n ≤ 60) ∧ n < 0 ∧ z2 = -10 - 5 ∧ σ2 = up σ1 1 33 5) ∨ (((0 ≤ s ∧ s < 4) ∧ (0 ≤ f ∧ f < 3) ∧ n ≤ 60) ∧ 0 ≤ n ∧ z2 = n ∧ mshQ σ1 σ2 s f n)) : z1 = z2 ∧ JJ σ2 := by
  rcases c with ⟨c1, c2, c3⟩ | ⟨c1, c2, c3, c4, c5⟩ | ⟨c1, c2, c3, c4, c5⟩
  · rcases d with ⟨d1, d2, d3⟩ | ⟨d1, -⟩ | ⟨d1, -⟩
    · rw [d3, c3]; exact ⟨by omega, hJ⟩
    · exact absurd d1 c1
    · exact absurd d1 c1
  · rcases d with ⟨d1, -⟩ | ⟨d1, d2, d3, d4⟩ | ⟨d1, d2, -⟩
    · exact absurd c1 d1
    · exact ⟨by omega, st_find0 hJ c4 c5 d4⟩
    · omega
  · rcases d with ⟨d1, -⟩ | ⟨d1, d2, -⟩ | ⟨d1, d2, d3, d4⟩
    · exact absurd c1 d1
    · omega
    · obtain ⟨g0, g73, g74, g75, g76⟩ := d4
      have r1 : ∀ i, i ≠ 18 + s.toNat → i ≠ 49 + s.toNat → σ1 i = σ i := fun i w1 w2 => by rw [c4, fill_row w2, up_row w1, up_row w1, up_row w1]
      refine ⟨by omega, st_sheets hJ c5 (fun i _ hi => r1 i (fun w => hi (by simp only [List.mem_cons, List.not_mem_nil, or_false]; omega)) (fun w => hi (by simp only [List.mem_cons, List.not_mem_nil, or_false]; omega))) (fun i _ hi => g0 i hi) (fun k _ _ _ _ => by rw [g0 1 (by decide)]) (fun t ht => ?_)⟩
      have old := hJ.2.2.2.1 t ht
      rw [g73, g74, g75, g0 (18 + t) (by simp; omega), g0 (49 + t) (by simp; omega)]
      by_cases w : t = s.toNat
      · have ws : (t : Int) = s := by omega
        have e1 : σ1 (18 + t) 1 = 0 := by rw [w, c4, fill_row (by omega)]; simp [up]
        have e2 : σ1 (18 + t) 2 = f := by rw [w, c4, fill_row (by omega)]; simp [up]
        have e3 : σ1 (18 + t) 3 = n := by rw [w, c4, fill_row (by omega)]; simp [up]
        rw [if_pos ws, if_pos ws, if_pos ws, e1, e2, e3]
        refine ⟨by omega, rfl, rfl, fun i i1 i2 => ?_⟩
        rw [g76, if_pos (by omega), w, c4]
        unfold fillM
        rw [if_pos ⟨rfl, i1, i2⟩]
      · have ws : ¬ (t : Int) = s := by omega
        rw [if_neg ws, if_neg ws, if_neg ws, r1 (18 + t) (by omega) (by omega), r1 (49 + t) (by omega) (by omega), r1 73 (by omega) (by omega), r1 74 (by omega) (by omega), r1 75 (by omega) (by omega)]
        refine ⟨old.1, old.2.1, old.2.2.1, fun i i1 i2 => ?_⟩
        rw [g76, if_neg (by omega), r1 76 (by omega) (by omega)]; exact old.2.2.2 i i1 i2
theorem st_lose {σ σ1 σ2 : Mem} {s z1 z2 : Int} (hJ : JJ σ) (c : (¬ (0 ≤ s ∧ s < 4) ∧ z1 = -2 ∧ σ1 = σ) ∨ ((0 ≤ s ∧ s < 4) ∧ σ (18 + s.toNat) 1 = 1 ∧ z1 = -10 - 1 ∧ σ1 = up σ 0 7 1 ∧ InvC σ1) ∨ ((0 ≤ s ∧ s < 4) ∧ σ (18 + s.toNat) 1 = 0 ∧ z1 = σ (18 + s.toNat) 3 ∧ σ1 = up σ (18 + s.toNat) 1 1 ∧ InvC σ1)) :
    (∀ s, 0 ≤ s → s < 4 → (σ1 73 s = 0 ∨ σ1 73 s = 1) ∧ (0 ≤ σ1 74 s ∧ σ1 74 s < 3) ∧ (0 ≤ σ1 75 s ∧ σ1 75 s ≤ 60)) ∧ ((¬ (0 ≤ s ∧ s < 4) ∧ z2 = -2 ∧ σ2 = σ1) ∨ ((0 ≤ s ∧ s < 4) ∧ σ1 73 s = 0 ∧ z2 = -10 - 1 ∧ σ2 = up σ1 1 33 1) ∨ ((0 ≤ s ∧ s < 4) ∧ σ1 73 s ≠ 0 ∧ z2 = σ1 75 s ∧ σ2 = up σ1 73 s 0) → z1 = z2 ∧ JJ σ2) := by
  rcases c with ⟨c1, c2, c3⟩ | ⟨c1, c2, c3, c4, c5⟩ | ⟨c1, c2, c3, c4, c5⟩
  · subst c3
    refine ⟨hJ.sh, fun d => ?_⟩
    rcases d with ⟨d1, d2, d3⟩ | ⟨d1, -⟩ | ⟨d1, -⟩
    · rw [d3]; exact ⟨by omega, hJ⟩
    · exact absurd d1 c1
    · exact absurd d1 c1
  · have r1 : ∀ i, i ≠ 0 → σ1 i = σ i := fun i hi => by rw [c4, up_row hi]
    have hz := (rd_it hJ c1).1.1
    refine ⟨hJ.sh1 ⟨r1 73 (by decide), r1 74 (by decide), r1 75 (by decide)⟩, fun d => ?_⟩
    rcases d with ⟨d1, -⟩ | ⟨d1, d2, d3, d4⟩ | ⟨d1, d2, -⟩
    · exact absurd c1 d1
    · exact ⟨by omega, st_find0 hJ c4 c5 d4⟩
    · rw [r1 73 (by decide)] at d2; omega
  · have r1 : ∀ i, i ≠ 18 + s.toNat → σ1 i = σ i := fun i hi => by rw [c4, up_row hi]
    have hz := (rd_it hJ c1).1
    refine ⟨hJ.sh1 ⟨r1 73 (by omega), r1 74 (by omega), r1 75 (by omega)⟩, fun d => ?_⟩
    rcases d with ⟨d1, -⟩ | ⟨d1, d2, -⟩ | ⟨d1, d2, d3, d4⟩
    · exact absurd c1 d1
    · rw [r1 73 (by omega)] at d2; omega
    · refine ⟨by rw [c3, d3, r1 75 (by omega)]; exact hz.2.2.1.symm, st_sheets hJ c5 (fun i _ hi => r1 i (fun w => hi (by simp only [List.mem_cons, List.not_mem_nil, or_false]; omega))) (fun i _ hi => by rw [d4, up_row (fun w => hi (by rw [w]; decide))]) (fun k _ _ _ _ => by rw [d4, up_i (by decide)]) (fun t ht => ?_)⟩
      have old := hJ.2.2.2.1 t ht
      have r2 : ∀ i, i ≠ 73 → σ2 i = σ1 i := fun i hi => by rw [d4, up_row hi]
      rw [r2 74 (by decide), r2 75 (by decide), r2 76 (by decide), r2 (18 + t) (by omega), r2 (49 + t) (by omega), r1 74 (by omega), r1 75 (by omega), r1 76 (by omega), r1 (49 + t) (by omega)]
      by_cases w : t = s.toNat
      · have ws : (t : Int) = s := by omega
        refine ⟨by rw [d4, ws, up_s, w, c4, up_s]; rfl, ?_, ?_, old.2.2.2⟩
        · rw [c4, w, up_n (by omega), ← w]; exact old.2.1
        · rw [c4, w, up_n (by omega), ← w]; exact old.2.2.1
      · rw [r1 (18 + t) (by omega)]
        exact ⟨by rw [d4, up_n (by omega), r1 73 (by omega)]; exact old.1, old.2.1, old.2.2.1, old.2.2.2⟩
theorem lk_fnd {σ σ1 : Mem} (hJ : JJ σ) {s : Int} (hs : 0 ≤ s ∧ s < 4) (r : σ1 73 = σ 73 ∧ σ1 74 = σ 74 ∧ σ1 75 = σ 75) (f i : Int) : lkM σ1 s f i = fnd (σ (18 + s.toNat)) f i := by
  obtain ⟨⟨h1, h2, h3, -⟩, h4, -⟩ := rd_it hJ hs
  unfold lkM fnd
  rw [r.1, r.2.1, r.2.2, h1, h2, h3]
  by_cases c : σ (18 + s.toNat) 1 = 1
  · rw [if_pos (by omega), if_pos c]
  · rw [if_neg (by omega), if_neg c]
/-- one item is written on both sides -/
theorem st_item {σ σ1 σ2 : Mem} {s i v : Int} (hJ : JJ σ) (hs : 0 ≤ s ∧ s < 4) (hi : 0 ≤ i ∧ i < 60) (c : σ1 = up σ (49 + s.toNat) i v) (hI : InvC σ1) (d : σ2 = up σ1 76 (60 * s + i) v) : JJ σ2 := by
  have r1 : ∀ j, j ≠ 49 + s.toNat → σ1 j = σ j := fun j hj => by rw [c, up_row hj]
  have r2 : ∀ j, j ≠ 76 → σ2 j = σ1 j := fun j hj => by rw [d, up_row hj]
  refine st_sheets hJ hI (fun j _ hj => r1 j (fun w => hj (by simp only [List.mem_cons, List.not_mem_nil, or_false]; omega))) (fun j _ hj => r2 j (fun w => hj (by rw [w]; decide))) (fun k _ _ _ _ => by rw [r2 1 (by decide)]) (fun t ht => ?_)
  have old := hJ.2.2.2.1 t ht
  rw [r2 73 (by decide), r2 74 (by decide), r2 75 (by decide), r2 (18 + t) (by omega), r2 (49 + t) (by omega), r1 73 (by omega), r1 74 (by omega), r1 75 (by omega), r1 (18 + t) (by omega)]
  refine ⟨old.1, old.2.1, old.2.2.1, fun j j1 j2 => ?_⟩
  rw [d, c]
  by_cases w : t = s.toNat ∧ j = i
  · rw [w.1, w.2, show ((s.toNat : Nat) : Int) = s by omega, up_s, up_s]
  · rw [up_n (by omega), up_n (by omega), up_n (by omega)]
    exact old.2.2.2 j j1 j2
theorem st_put {σ σ1 σ2 : Mem} {s f i v z1 z2 : Int} (hJ : JJ σ) (c : (¬ ((0 ≤ s ∧ s < 4) ∧ (0 ≤ f ∧ f < 3)) ∧ z1 = -2 ∧ σ1 = σ) ∨ (((0 ≤ s ∧ s < 4) ∧ (0 ≤ f ∧ f < 3)) ∧ fnd (σ (18 + s.toNat)) f i ≠ 0 ∧ z1 = -10 - fnd (σ (18 + s.toNat)) f i ∧ σ1 = up σ 0 7 (fnd (σ (18 + s.toNat)) f i) ∧ InvC σ1) ∨ (((0 ≤ s ∧ s < 4) ∧ (0 ≤ f ∧ f < 3)) ∧ fnd (σ (18 + s.toNat)) f i = 0 ∧ z1 = 1 ∧ σ1 = up σ (49 + s.toNat) i (cutF (σ (18 + s.toNat) 2) v) ∧ InvC σ1)) :
    (∀ s, 0 ≤ s → s < 4 → (σ1 73 s = 0 ∨ σ1 73 s = 1) ∧ (0 ≤ σ1 74 s ∧ σ1 74 s < 3) ∧ (0 ≤ σ1 75 s ∧ σ1 75 s ≤ 60)) ∧ ((¬ ((0 ≤ s ∧ s < 4) ∧ (0 ≤ f ∧ f < 3)) ∧ z2 = -2 ∧ σ2 = σ1) ∨ (((0 ≤ s ∧ s < 4) ∧ (0 ≤ f ∧ f < 3)) ∧ lkM σ1 s f i ≠ 0 ∧ z2 = -10 - lkM σ1 s f i ∧ σ2 = up σ1 1 33 (lkM σ1 s f i)) ∨ (((0 ≤ s ∧ s < 4) ∧ (0 ≤ f ∧ f < 3)) ∧ lkM σ1 s f i = 0 ∧ z2 = 1 ∧ σ2 = up σ1 76 (60 * s + i) (cutF (σ1 74 s) v)) → z1 = z2 ∧ JJ σ2) := by
  rcases c with ⟨c1, c2, c3⟩ | ⟨c1, c2, c3, c4, c5⟩ | ⟨c1, c2, c3, c4, c5⟩
  · subst c3
    refine ⟨hJ.sh, fun d => ?_⟩
    rcases d with ⟨d1, d2, d3⟩ | ⟨d1, -⟩ | ⟨d1, -⟩
    · rw [d3]; exact ⟨by omega, hJ⟩
    · exact absurd d1 c1
    · exact absurd d1 c1
  · have r1 : ∀ i, i ≠ 0 → σ1 i = σ i := fun i hi => by rw [c4, up_row hi]
    have rr : σ1 73 = σ 73 ∧ σ1 74 = σ 74 ∧ σ1 75 = σ 75 := ⟨r1 73 (by decide), r1 74 (by decide), r1 75 (by decide)⟩
    refine ⟨hJ.sh1 rr, fun d => ?_⟩
    rw [lk_fnd hJ c1.1 rr] at d
    rcases d with ⟨d1, -⟩ | ⟨d1, d2, d3, d4⟩ | ⟨d1, d2, -⟩
    · exact absurd c1 d1
    · exact ⟨by omega, st_find0 hJ c4 c5 d4⟩
    · exact absurd d2 c2
  · have r1 : ∀ j, j ≠ 49 + s.toNat → σ1 j = σ j := fun j hj => by rw [c4, up_row hj]
    have rr : σ1 73 = σ 73 ∧ σ1 74 = σ 74 ∧ σ1 75 = σ 75 := ⟨r1 73 (by omega), r1 74 (by omega), r1 75 (by omega)⟩
    have hz := rd_it hJ c1.1
    refine ⟨hJ.sh1 rr, fun d => ?_⟩
    rw [lk_fnd hJ c1.1 rr] at d
    rcases d with ⟨d1, -⟩ | ⟨d1, d2, -⟩ | ⟨d1, d2, d3, d4⟩
    · exact absurd c1 d1
    · exact absurd c2 d2
    · rw [rr.2.1, hz.1.2.1] at d4
      have hi : 0 ≤ i ∧ i < 60 := by
        have hz2 := hz.2.2.2
        unfold fnd at c2
        repeat (first | omega | split at c2)
      exact ⟨by omega, st_item hJ c1.1 hi c4 c5 d4⟩
theorem st_get {σ σ1 σ2 : Mem} {s f i z1 z2 : Int} (hJ : JJ σ) (c : (¬ ((0 ≤ s ∧ s < 4) ∧ (0 ≤ f ∧ f < 3)) ∧ z1 = -2147483648 ∧ σ1 = σ) ∨ (((0 ≤ s ∧ s < 4) ∧ (0 ≤ f ∧ f < 3)) ∧ fnd (σ (18 + s.toNat)) f i ≠ 0 ∧ z1 = -2147483648 ∧ σ1 = up σ 0 7 (fnd (σ (18 + s.toNat)) f i) ∧ InvC σ1) ∨ (((0 ≤ s ∧ s < 4) ∧ (0 ≤ f ∧ f < 3)) ∧ fnd (σ (18 + s.toNat)) f i = 0 ∧ z1 = σ (49 + s.toNat) i ∧ σ1 = σ)) :
    (∀ s, 0 ≤ s → s < 4 → (σ1 73 s = 0 ∨ σ1 73 s = 1) ∧ (0 ≤ σ1 74 s ∧ σ1 74 s < 3) ∧ (0 ≤ σ1 75 s ∧ σ1 75 s ≤ 60)) ∧ ((¬ ((0 ≤ s ∧ s < 4) ∧ (0 ≤ f ∧ f < 3)) ∧ z2 = -2147483648 ∧ σ2 = σ1) ∨ (((0 ≤ s ∧ s < 4) ∧ (0 ≤ f ∧ f < 3)) ∧ lkM σ1 s f i ≠ 0 ∧ z2 = -2147483648 ∧ σ2 = up σ1 1 33 (lkM σ1 s f i)) ∨ (((0 ≤ s ∧ s < 4) ∧ (0 ≤ f ∧ f < 3)) ∧ lkM σ1 s f i = 0 ∧ z2 = σ1 76 (60 * s + i) ∧ σ2 = σ1) → z1 = z2 ∧ JJ σ2) := by
  rcases c with ⟨c1, c2, c3⟩ | ⟨c1, c2, c3, c4, c5⟩ | ⟨c1, c2, c3, c4⟩
  · subst c3
    refine ⟨hJ.sh, fun d => ?_⟩
    rcases d with ⟨d1, d2, d3⟩ | ⟨d1, -⟩ | ⟨d1, -⟩
    · rw [d3]; exact ⟨by omega, hJ⟩
    · exact absurd d1 c1
    · exact absurd d1 c1
  · have r1 : ∀ i, i ≠ 0 → σ1 i = σ i := fun i hi => by rw [c4, up_row hi]
    have rr : σ1 73 = σ 73 ∧ σ1 74 = σ 74 ∧ σ1 75 = σ 75 := ⟨r1 73 (by decide), r1 74 (by decide), r1 75 (by decide)⟩
    refine ⟨hJ.sh1 rr, fun d => ?_⟩
    rw [lk_fnd hJ c1.1 rr] at d
    rcases d with ⟨d1, -⟩ | ⟨d1, d2, d3, d4⟩ | ⟨d1, d2, -⟩
    · exact absurd c1 d1
    · exact ⟨by omega, st_find0 hJ c4 c5 d4⟩
    · exact absurd d2 c2
  · subst c4
    have hz := rd_it hJ c1.1
    refine ⟨hJ.sh, fun d => ?_⟩
    rw [lk_fnd hJ c1.1 ⟨rfl, rfl, rfl⟩] at d
    rcases d with ⟨d1, -⟩ | ⟨d1, d2, -⟩ | ⟨d1, d2, d3, d4⟩
    · exact absurd c1 d1
    · exact absurd c2 d2
    · have hi : 0 ≤ i ∧ i < 60 := by
        have hz2 := hz.2.2.2
        unfold fnd at c2
        repeat (first | omega | split at c2)
      rw [d4]
      exact ⟨by rw [c3, d3]; exact (hz.1.2.2.2 i hi.1 hi.2).symm, hJ⟩
