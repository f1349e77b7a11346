theorem st_fault {σ σ1 σ2 : Mem} {t z1 z2 : Int} (hJ : JJ σ) (h1 : σ1 = σ ∧ if 0 ≤ t ∧ t < 2 then FFz t.toNat (σ (29 + t.toNat)) (σ (16 + t.toNat) 3) z1 else z1 = -2) (h2 : FrM σ1 σ2 ∧ if 0 ≤ t ∧ t < 2 then FFz t.toNat (σ1 (29 + t.toNat)) (σ1 (16 + t.toNat) 3) z2 else z2 = -2) : z1 = z2 ∧ JJ σ2 := by
  obtain ⟨e, h1⟩ := h1
  subst e
  refine ⟨?_, hJ.fm h2.1⟩
  have h2 := h2.2
  by_cases c : 0 ≤ t ∧ t < 2
  · rw [if_pos c] at h1 h2; exact FFz_un h1 h2
  · rw [if_neg c] at h1 h2; omega
theorem st_pu {σ σ1 σ2 : Mem} {z1 z2 : Int} {E : Mem → Int} (hJ : JJ σ) (h1 : σ1 = σ ∧ z1 = E σ) (h2 : FrM σ1 σ2 ∧ z2 = E σ1) : z1 = z2 ∧ JJ σ2 := by
  obtain ⟨e, h1⟩ := h1
  subst e
  exact ⟨by rw [h1, h2.2], hJ.fm h2.1⟩
theorem st_sleeper {σ σ1 σ2 : Mem} {s w z1 z2 : Int} (hJ : JJ σ) (h1 : σ1 = σ ∧ z1 = if (0 ≤ s ∧ s < σ 0 2) ∧ (0 ≤ w ∧ w < 4) then σ (8 + s.toNat) w else -2) (h2 : FrM σ1 σ2 ∧ z2 = if (0 ≤ s ∧ s < σ1 0 2) ∧ (0 ≤ w ∧ w < 4) then σ1 (8 + s.toNat) w else -2) : z1 = z2 ∧ JJ σ2 := st_pu (E := fun σ => if (0 ≤ s ∧ s < σ 0 2) ∧ (0 ≤ w ∧ w < 4) then σ (8 + s.toNat) w else -2) hJ h1 h2
theorem st_deed {σ σ1 σ2 : Mem} {d w z1 z2 : Int} (hJ : JJ σ) (h1 : σ1 = σ ∧ z1 = if (0 ≤ d ∧ d < σ 2 4) ∧ (0 ≤ w ∧ w < 3) then (if w = 0 then σ 33 d else if w = 1 then σ 34 d else σ 35 d) else -2) (h2 : FrM σ1 σ2 ∧ z2 = if (0 ≤ d ∧ d < σ1 2 4) ∧ (0 ≤ w ∧ w < 3) then (if w = 0 then σ1 33 d else if w = 1 then σ1 34 d else σ1 35 d) else -2) : z1 = z2 ∧ JJ σ2 := st_pu (E := fun σ => if (0 ≤ d ∧ d < σ 2 4) ∧ (0 ≤ w ∧ w < 3) then (if w = 0 then σ 33 d else if w = 1 then σ 34 d else σ 35 d) else -2) hJ h1 h2
theorem st_depth {σ σ1 σ2 : Mem} {hour s z1 z2 : Int} (hJ : JJ σ) (h1 : Same SC σ σ1 ∧ z1 = if (0 ≤ hour ∧ hour < 50) ∧ (0 ≤ s ∧ s < σ 0 2) then dpH σ s.toNat hour else -2) (h2 : FrM σ1 σ2 ∧ z2 = if (0 ≤ hour ∧ hour < 50) ∧ (0 ≤ s ∧ s < σ1 0 2) then dpH σ1 s.toNat hour else -2) : z1 = z2 ∧ JJ σ2 := by
  obtain ⟨hs, h1⟩ := h1
  refine ⟨?_, st_ro hJ hs h2.1⟩
  have h8 := hJ.1.ns
  have h9 := hJ.1.row.1
  rw [h1, h2.2]
  rw [hs 0 (by decide)]
  by_cases c : (0 ≤ hour ∧ hour < 50) ∧ (0 ≤ s ∧ s < σ 0 2)
  · rw [if_pos c, if_pos c, sm_dpH hs (by omega)]
  · rw [if_neg c, if_neg c]
theorem st_hears {σ σ1 σ2 : Mem} {d s w z1 z2 : Int} (hJ : JJ σ) (h1 : Same SC σ σ1 ∧ z1 = if ((0 ≤ d ∧ d < σ 2 4) ∧ (0 ≤ s ∧ s < σ 0 2)) ∧ (0 ≤ w ∧ w < 3) then cHe σ d s.toNat w else -2) (h2 : FrM σ1 σ2 ∧ z2 = if ((0 ≤ d ∧ d < σ1 2 4) ∧ (0 ≤ s ∧ s < σ1 0 2)) ∧ (0 ≤ w ∧ w < 3) then cHe σ1 d s.toNat w else -2) : z1 = z2 ∧ JJ σ2 := by
  obtain ⟨hs, h1⟩ := h1
  refine ⟨?_, st_ro hJ hs h2.1⟩
  have h8 := hJ.1.ns
  have h9 := hJ.1.row.1
  rw [h1, h2.2]
  rw [hs 2 (by decide), hs 0 (by decide)]
  by_cases c : ((0 ≤ d ∧ d < σ 2 4) ∧ (0 ≤ s ∧ s < σ 0 2)) ∧ (0 ≤ w ∧ w < 3)
  · rw [if_pos c, if_pos c, sm_cHe hs (by omega)]
  · rw [if_neg c, if_neg c]
theorem st_proof {σ σ1 σ2 : Mem} {d w z1 z2 : Int} (hJ : JJ σ) (h1 : Same SC σ σ1 ∧ z1 = if (0 ≤ d ∧ d < σ 2 4) ∧ (0 ≤ w ∧ w < 3) then cPf σ d w else -2) (h2 : FrM σ1 σ2 ∧ z2 = if (0 ≤ d ∧ d < σ1 2 4) ∧ (0 ≤ w ∧ w < 3) then cPf σ1 d w else -2) : z1 = z2 ∧ JJ σ2 := by
  obtain ⟨hs, h1⟩ := h1
  refine ⟨?_, st_ro hJ hs h2.1⟩
  have h8 := hJ.1.ns
  have h9 := hJ.1.row.1
  rw [h1, h2.2]
  rw [hs 2 (by decide)]
  by_cases c : (0 ≤ d ∧ d < σ 2 4) ∧ (0 ≤ w ∧ w < 3)
  · rw [if_pos c, if_pos c, sm_cPf hs h8.2]
  · rw [if_neg c, if_neg c]
theorem st_nights {σ σ1 σ2 : Mem} {s w z1 z2 : Int} (hJ : JJ σ) (h1 : Same SC σ σ1 ∧ z1 = if (0 ≤ s ∧ s < σ 0 2) ∧ (0 ≤ w ∧ w < 2) then cNt σ s.toNat w else -2) (h2 : FrM σ1 σ2 ∧ z2 = if (0 ≤ s ∧ s < σ1 0 2) ∧ (0 ≤ w ∧ w < 2) then cNt σ1 s.toNat w else -2) : z1 = z2 ∧ JJ σ2 := by
  obtain ⟨hs, h1⟩ := h1
  refine ⟨?_, st_ro hJ hs h2.1⟩
  have h8 := hJ.1.ns
  have h9 := hJ.1.row.1
  rw [h1, h2.2]
  rw [hs 0 (by decide)]
  by_cases c : (0 ≤ s ∧ s < σ 0 2) ∧ (0 ≤ w ∧ w < 2)
  · rw [if_pos c, if_pos c, sm_cNt hs (by omega)]
  · rw [if_neg c, if_neg c]
theorem st_best {σ σ1 σ2 : Mem} {z1 z2 : Int} (hJ : JJ σ) (h1 : Same SC σ σ1 ∧ z1 = amx (cMany σ) (σ 0 2).toNat) (h2 : FrM σ1 σ2 ∧ z2 = amx (cMany σ1) (σ1 0 2).toNat) : z1 = z2 ∧ JJ σ2 := by
  obtain ⟨hs, h1⟩ := h1
  refine ⟨?_, st_ro hJ hs h2.1⟩
  have h8 := hJ.1.ns
  have h9 := hJ.1.row.1
  rw [h1, h2.2]
  exact (sm_best hs h8.2).symm
theorem st_byAll {σ σ1 σ2 : Mem} {z1 z2 : Int} (hJ : JJ σ) (h1 : Same SC σ σ1 ∧ z1 = cBA σ) (h2 : FrM σ1 σ2 ∧ z2 = cBA σ1) : z1 = z2 ∧ JJ σ2 := by
  obtain ⟨hs, h1⟩ := h1
  refine ⟨?_, st_ro hJ hs h2.1⟩
  have h8 := hJ.1.ns
  have h9 := hJ.1.row.1
  rw [h1, h2.2]
  exact (sm_cBA hs h8.2).symm
theorem st_quiet {σ σ1 σ2 : Mem} {house sound i z1 z2 : Int} (hJ : JJ σ) (h1 : Same SC σ σ1 ∧ z1 = if (0 ≤ house ∧ house < 10) ∧ (0 ≤ sound ∧ sound < 4) ∧ (-1 ≤ i ∧ i < 50) then cQg σ house sound i else -2) (h2 : FrM σ1 σ2 ∧ z2 = if (0 ≤ house ∧ house < 10) ∧ (0 ≤ sound ∧ sound < 4) ∧ (-1 ≤ i ∧ i < 50) then cQg σ1 house sound i else -2) : z1 = z2 ∧ JJ σ2 := by
  obtain ⟨hs, h1⟩ := h1
  refine ⟨?_, st_ro hJ hs h2.1⟩
  have h8 := hJ.1.ns
  have h9 := hJ.1.row.1
  rw [h1, h2.2]
  by_cases c : (0 ≤ house ∧ house < 10) ∧ (0 ≤ sound ∧ sound < 4) ∧ (-1 ≤ i ∧ i < 50)
  · rw [if_pos c, if_pos c, sm_cQg hs h8.2]
  · rw [if_neg c, if_neg c]
theorem st_move {σ σ1 σ2 : Mem} {s w z1 z2 : Int} (hJ : JJ σ) (h1 : Same SC σ σ1 ∧ z1 = if (0 ≤ s ∧ s < σ 0 2) ∧ (0 ≤ w ∧ w < 2) then (if w = 0 then amx (mvP σ s.toNat) 10 else amv (mvP σ s.toNat) 10) else -2) (h2 : FrM σ1 σ2 ∧ z2 = if (0 ≤ s ∧ s < σ1 0 2) ∧ (0 ≤ w ∧ w < 2) then (if w = 0 then amx (mvP σ1 s.toNat) 10 else amv (mvP σ1 s.toNat) 10) else -2) : z1 = z2 ∧ JJ σ2 := by
  obtain ⟨hs, h1⟩ := h1
  refine ⟨?_, st_ro hJ hs h2.1⟩
  have h8 := hJ.1.ns
  have h9 := hJ.1.row.1
  rw [h1, h2.2]
  rw [hs 0 (by decide)]
  by_cases c : (0 ≤ s ∧ s < σ 0 2) ∧ (0 ≤ w ∧ w < 2)
  · rw [if_pos c, if_pos c, sm_mvP hs h8.2 (by omega)]
  · rw [if_neg c, if_neg c]
theorem st_need {σ σ1 σ2 : Mem} {d i z1 z2 : Int} (hJ : JJ σ) (h1 : Same SC σ σ1 ∧ z1 = if (0 ≤ d ∧ d < σ 2 4) ∧ (-1 ≤ i ∧ i < 2) then cNd σ d i else -2) (h2 : FrM σ1 σ2 ∧ z2 = if (0 ≤ d ∧ d < σ1 2 4) ∧ (-1 ≤ i ∧ i < 2) then cNd σ1 d i else -2) : z1 = z2 ∧ JJ σ2 := by
  obtain ⟨hs, h1⟩ := h1
  refine ⟨?_, st_ro hJ hs h2.1⟩
  have h8 := hJ.1.ns
  have h9 := hJ.1.row.1
  rw [h1, h2.2]
  rw [hs 2 (by decide)]
  by_cases c : (0 ≤ d ∧ d < σ 2 4) ∧ (-1 ≤ i ∧ i < 2)
  · rw [if_pos c, if_pos c, sm_cNd hs h8.2]
  · rw [if_neg c, if_neg c]
theorem st_feed {σ σ1 σ2 : Mem} {s w z1 z2 : Int} (hJ : JJ σ) (h1 : Same SC σ σ1 ∧ z1 = if (0 ≤ s ∧ s < σ 0 2) ∧ (0 ≤ w ∧ w < 2) then (if w = 0 then amx (fdP σ s.toNat) 4 else amv (fdP σ s.toNat) 4) else -2) (h2 : FrM σ1 σ2 ∧ z2 = if (0 ≤ s ∧ s < σ1 0 2) ∧ (0 ≤ w ∧ w < 2) then (if w = 0 then amx (fdP σ1 s.toNat) 4 else amv (fdP σ1 s.toNat) 4) else -2) : z1 = z2 ∧ JJ σ2 := by
  obtain ⟨hs, h1⟩ := h1
  refine ⟨?_, st_ro hJ hs h2.1⟩
  have h8 := hJ.1.ns
  have h9 := hJ.1.row.1
  rw [h1, h2.2]
  rw [hs 0 (by decide)]
  by_cases c : (0 ≤ s ∧ s < σ 0 2) ∧ (0 ≤ w ∧ w < 2)
  · rw [if_pos c, if_pos c, sm_fdP hs (by omega)]
  · rw [if_neg c, if_neg c]
theorem st_never {σ σ1 σ2 : Mem} {z1 z2 : Int} (hJ : JJ σ) (h1 : Same SC σ σ1 ∧ z1 = bsum (nvB σ) (σ 2 4).toNat) (h2 : FrM σ1 σ2 ∧ z2 = bsum (nvB σ1) (σ1 2 4).toNat) : z1 = z2 ∧ JJ σ2 := by
  obtain ⟨hs, h1⟩ := h1
  refine ⟨?_, st_ro hJ hs h2.1⟩
  have h8 := hJ.1.ns
  have h9 := hJ.1.row.1
  rw [h1, h2.2]
  rw [sm_nvB hs h8.2, hs 2 (by decide)]
theorem st_place {σ σ1 σ2 : Mem} {d z1 z2 : Int} (hJ : JJ σ) (h1 : Same SC σ σ1 ∧ z1 = if 0 ≤ d ∧ d < σ 2 4 then bsum (plB σ d) 10 else -2) (h2 : FrM σ1 σ2 ∧ z2 = if 0 ≤ d ∧ d < σ1 2 4 then bsum (plB σ1 d) 10 else -2) : z1 = z2 ∧ JJ σ2 := by
  obtain ⟨hs, h1⟩ := h1
  refine ⟨?_, st_ro hJ hs h2.1⟩
  have h8 := hJ.1.ns
  have h9 := hJ.1.row.1
  rw [h1, h2.2]
  rw [hs 2 (by decide)]
  by_cases c : 0 ≤ d ∧ d < σ 2 4
  · rw [if_pos c, if_pos c, sm_plB hs h8.2]
  · rw [if_neg c, if_neg c]
theorem st_ask {σ σ1 σ2 : Mem} {z1 z2 : Int} (hJ : JJ σ) (h1 : Same SC σ σ1 ∧ z1 = amx (aMost σ) (σ 0 2).toNat) (h2 : FrM σ1 σ2 ∧ z2 = amx (aMost σ1) (σ1 0 2).toNat) : z1 = z2 ∧ JJ σ2 := by
  obtain ⟨hs, h1⟩ := h1
  refine ⟨?_, st_ro hJ hs h2.1⟩
  have h8 := hJ.1.ns
  have h9 := hJ.1.row.1
  rw [h1, h2.2]
  exact (sm_ask hs h8.2 h9.2).symm
theorem st_court {σ σ1 σ2 : Mem} {x n w z1 z2 : Int} (hJ : JJ σ) (h1 : Same SC σ σ1 ∧ z1 = if (1 ≤ n ∧ n ≤ 8) ∧ (0 ≤ w ∧ w < 2) then (if w = 0 then crtP σ x n else crtM σ x n) else -2) (h2 : FrM σ1 σ2 ∧ z2 = if (1 ≤ n ∧ n ≤ 8) ∧ (0 ≤ w ∧ w < 2) then (if w = 0 then crtP σ1 x n else crtM σ1 x n) else -2) : z1 = z2 ∧ JJ σ2 := by
  obtain ⟨hs, h1⟩ := h1
  refine ⟨?_, st_ro hJ hs h2.1⟩
  have h8 := hJ.1.ns
  have h9 := hJ.1.row.1
  rw [h1, h2.2]
  by_cases c : (1 ≤ n ∧ n ≤ 8) ∧ (0 ≤ w ∧ w < 2)
  · rw [if_pos c, if_pos c, sm_crtP hs h8.2, sm_crtM hs h8.2]
  · rw [if_neg c, if_neg c]
theorem st_count {σ σ1 σ2 : Mem} {w z1 z2 : Int} (hJ : JJ σ) (h1 : Same SC σ σ1 ∧ z1 = cCt σ w) (h2 : FrM σ1 σ2 ∧ z2 = cCt σ1 w) : z1 = z2 ∧ JJ σ2 := by
  obtain ⟨hs, h1⟩ := h1
  refine ⟨?_, st_ro hJ hs h2.1⟩
  have h8 := hJ.1.ns
  have h9 := hJ.1.row.1
  rw [h1, h2.2]
  exact (sm_cCt hs h8.2 w).symm
theorem st_digest {σ σ1 σ2 : Mem} {z1 z2 : Int} (hJ : JJ σ) (h1 : Same SC σ σ1 ∧ z1 = dig σ) (h2 : FrM σ1 σ2 ∧ z2 = dig σ1) : z1 = z2 ∧ JJ σ2 := by
  obtain ⟨hs, h1⟩ := h1
  refine ⟨?_, st_ro hJ hs h2.1⟩
  have h8 := hJ.1.ns
  have h9 := hJ.1.row.1
  rw [h1, h2.2]
  exact (sm_dig hs h8.2 h9.2).symm
theorem st_feign {σ σ1 σ2 : Mem} {c d w z1 z2 : Int} (hJ : JJ σ) (h1 : Same SC σ σ1 ∧ ((¬ ((0 ≤ c ∧ c < 17) ∧ (0 ≤ d ∧ d < σ 2 4) ∧ (0 ≤ w ∧ w < 2)) ∧ z1 = -9223372036854775806) ∨ (((0 ≤ c ∧ c < 17) ∧ (0 ≤ d ∧ d < σ 2 4) ∧ (0 ≤ w ∧ w < 2)) ∧ ∃ a b, RedQ (fgT σ c d) (4 * fgM σ d) a b ∧ z1 = if w = 0 then a else b))) (h2 : FrM σ1 σ2 ∧ ((¬ ((0 ≤ c ∧ c < 17) ∧ (0 ≤ d ∧ d < σ1 2 4) ∧ (0 ≤ w ∧ w < 2)) ∧ z2 = -9223372036854775806) ∨ (((0 ≤ c ∧ c < 17) ∧ (0 ≤ d ∧ d < σ1 2 4) ∧ (0 ≤ w ∧ w < 2)) ∧ ∃ a b, RedQ (fgT σ1 c d) (4 * fgM σ1 d) a b ∧ z2 = if w = 0 then a else b))) : z1 = z2 ∧ JJ σ2 := by
  obtain ⟨hs, h1⟩ := h1
  refine ⟨?_, st_ro hJ hs h2.1⟩
  have h8 := hJ.1.ns
  have h2 := h2.2
  rw [hs 2 (by decide), sm_fgT hs h8.2, sm_fgM hs h8.2] at h2
  rcases h1 with ⟨a1, a2⟩ | ⟨a1, a, b, a2, a3⟩
  · rcases h2 with ⟨b1, b2⟩ | ⟨b1, -⟩
    · omega
    · exact absurd b1 a1
  · rcases h2 with ⟨b1, -⟩ | ⟨b1, a', b', b2, b3⟩
    · exact absurd a1 b1
    · have r1 := RedQ_rd a2
      have r2 := RedQ_rd b2
      rw [a3, b3, r1.1, r1.2, r2.1, r2.2]
