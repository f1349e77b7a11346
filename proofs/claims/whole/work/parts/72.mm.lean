/-! the same words over a memory in which the model alone has worked -/
theorem InvC.mm {σ σ' : Mem} (h : InvC σ) (hs : Same MSC σ σ') : InvC σ' := by
  have r : ∀ i, i ∉ MSC → σ' i = σ i := hs
  have bd : ∀ s : Nat, s < 8 → σ' (8 + s) = σ (8 + s) := fun s hs => r _ (by simp; omega)
  have sh : ∀ s : Nat, s < 4 → σ' (18 + s) = σ (18 + s) := fun s hs => r _ (by simp; omega)
  have hns := h.ns
  obtain ⟨h1, ⟨f, a1, a2, a3⟩, ⟨g, b1, b2, b3, b4⟩, h4, h5, h6, h7⟩ := h
  refine ⟨?_, ⟨f, ?_, ?_, ?_⟩, ⟨g, ?_, ?_, ?_, ?_⟩, ?_, ?_, ?_, ?_⟩
  · rw [TxOK, r 16 (by decide), r 17 (by decide), r 29 (by decide), r 30 (by decide), r 31 (by decide), r 32 (by decide)]; exact h1
  · rw [r 29 (by decide), r 16 (by decide)]; exact a1
  · rw [r 0 (by decide), r 16 (by decide)]; exact a2
  · intro s hs
    rw [r 0 (by decide)] at hs
    rw [bd s (by omega), r 29 (by decide)]; exact a3 s hs
  · rw [r 30 (by decide), r 17 (by decide)]; exact b1
  · rw [r 2 (by decide), r 17 (by decide)]; exact b2
  · rw [r 33 (by decide), r 34 (by decide), r 35 (by decide), r 36 (by decide), r 2 (by decide)]; exact b3
  · intro d q1 q2
    rw [r 2 (by decide)] at q2
    rw [r 33 (by decide), r 34 (by decide), r 35 (by decide), r 30 (by decide)]; exact b4 d q1 q2
  · rw [r 25 (by decide)]; exact h4
  · rw [TlOK, r 4 (by decide), r 41 (by decide), r 42 (by decide), r 43 (by decide)]; exact h5
  · intro s hs
    rw [sh s hs]; exact h6 s hs
  · rw [r 0 (by decide)]; exact h7
theorem cFT_mm {σ σ' : Mem} (hs : Same MSC σ σ') {s : Nat} (h8 : s < 8) (d : Int) : cFT σ' s d = cFT σ s d := by
  unfold cFT
  rw [hs (8 + s) (by simp; omega), hs 33 (by decide), hs 34 (by decide), hs 35 (by decide), hs 2 (by decide)]
theorem cTS_mm {σ σ' : Mem} (hs : Same MSC σ σ') {s : Nat} (h8 : s < 8) (d : Int) : cTS σ' s d = cTS σ s d := by
  unfold cTS
  rw [hs (8 + s) (by simp; omega), hs 33 (by decide), hs 34 (by decide), hs 35 (by decide), hs 2 (by decide), hs 25 (by decide)]
theorem mm_cntT {σ σ' : Mem} (hs : Same MSC σ σ') (h8 : σ 0 2 ≤ 8) (d : Int) : cnt (fun s => cTS σ' s d) (σ' 0 2).toNat = cnt (fun s => cTS σ s d) (σ 0 2).toNat := by
  rw [hs 0 (by decide)]
  exact cnt_cg (fun s h => cTS_mm hs (by omega) d)
theorem mm_bT {σ σ' : Mem} (hs : Same MSC σ σ') (h8 : σ 0 2 ≤ 8) (d : Int) : bsum (fun s => cTS σ' s d) (σ' 0 2).toNat = bsum (fun s => cTS σ s d) (σ 0 2).toNat := by
  rw [hs 0 (by decide)]
  exact bsum_cg (fun s h => cTS_mm hs (by omega) d)
theorem mm_many {σ σ' : Mem} (hs : Same MSC σ σ') {s : Nat} (h8 : s < 8) : cMany σ' s = cMany σ s := by
  unfold cMany
  rw [hs 2 (by decide)]
  exact cnt_cg (fun d h => cTS_mm hs h8 _)
theorem mm_TSz {σ σ' : Mem} (hs : Same MSC σ σ') (z : Int → Int) (d : Int) : TSz σ' z d = TSz σ z d := by
  unfold TSz
  rw [hs 33 (by decide), hs 34 (by decide), hs 35 (by decide), hs 2 (by decide), hs 25 (by decide)]
theorem mm_mvP {σ σ' : Mem} (hs : Same MSC σ σ') (h8 : σ 0 2 ≤ 8) {s : Nat} (hs8 : s < 8) : mvP σ' s = mvP σ s := by
  funext h
  unfold mvP
  rw [hs 2 (by decide), hs 25 (by decide), hs 0 (by decide), hs (8 + s) (by simp; omega)]
  refine cnt_cg (fun d hd => ?_)
  have e : cnt (fun j : Nat => if j = s then TSz σ' (zHo (σ (8 + s)) (h : Int)) (d : Int) else cTS σ' j (d : Int)) (σ 0 2).toNat = cnt (fun j : Nat => if j = s then TSz σ (zHo (σ (8 + s)) (h : Int)) (d : Int) else cTS σ j (d : Int)) (σ 0 2).toNat :=
    cnt_cg (fun j hj => by rw [mm_TSz hs, cTS_mm hs (by omega)])
  rw [e]
theorem mm_fdP {σ σ' : Mem} (hs : Same MSC σ σ') {s : Nat} (hs8 : s < 8) : fdP σ' s = fdP σ s := by
  funext h
  unfold fdP
  rw [hs 2 (by decide), hs (8 + s) (by simp; omega)]
  exact cnt_cg (fun d hd => mm_TSz hs _ _)
theorem mm_dpH {σ σ' : Mem} (hs : Same MSC σ σ') {s : Nat} (hs8 : s < 8) (k : Int) : dpH σ' s k = dpH σ s k := by
  unfold dpH
  rw [hs 2 (by decide), hs 33 (by decide), hs 34 (by decide), hs 35 (by decide), hs (8 + s) (by simp; omega)]
theorem mm_cPr {σ σ' : Mem} (hs : Same MSC σ σ') (h8 : σ 0 2 ≤ 8) : cPr σ' = cPr σ := by
  unfold cPr
  rw [hs 2 (by decide), hs 25 (by decide)]
  refine cnt_cg (fun d hd => ?_)
  rw [mm_cntT hs h8]
theorem mm_cSm {σ σ' : Mem} (hs : Same MSC σ σ') (h8 : σ 0 2 ≤ 8) (f : Int) : cSm σ' f = cSm σ f := by
  unfold cSm
  rw [hs 2 (by decide), hs 0 (by decide), hs 33 (by decide), hs 34 (by decide), hs 35 (by decide)]
  refine sumN_cg (fun s h => ?_)
  rw [hs (8 + s) (by simp; omega)]
theorem mm_cCt {σ σ' : Mem} (hs : Same MSC σ σ') (h8 : σ 0 2 ≤ 8) (w : Int) : cCt σ' w = cCt σ w := by
  unfold cCt
  rw [hs 0 (by decide), hs 2 (by decide), hs 16 (by decide), hs 17 (by decide), hs 4 (by decide), mm_cPr hs h8, mm_cSm hs h8, mm_cSm hs h8]
theorem mm_cmB {σ σ' : Mem} (hs : Same MSC σ σ') (h8 : σ 0 2 ≤ 8) (hr ho so : Int → Int) (n m : Nat) : cmB σ' hr ho so n m = cmB σ hr ho so n m :=
  cmB_cg (by rw [hs 0 (by decide)]) h8 (hs 41 (by decide)) (hs 42 (by decide)) (hs 43 (by decide)) (fun s h => hs (8 + s) (by simp; omega)) (fun d _ _ => ⟨rfl, rfl, rfl⟩) m
theorem mm_nvB {σ σ' : Mem} (hs : Same MSC σ σ') (h8 : σ 0 2 ≤ 8) : nvB σ' = nvB σ := by
  funext d
  unfold nvB
  rw [hs 33 (by decide), hs 34 (by decide), hs 35 (by decide), hs 2 (by decide), hs 4 (by decide), mm_cmB hs h8]
theorem mm_plB {σ σ' : Mem} (hs : Same MSC σ σ') (h8 : σ 0 2 ≤ 8) (d : Int) : plB σ' d = plB σ d := by
  funext h
  unfold plB
  rw [hs 33 (by decide), hs 34 (by decide), hs 35 (by decide), hs 2 (by decide), hs 4 (by decide), mm_cmB hs h8]
theorem mm_mkW {σ σ' : Mem} (hs : Same MSC σ σ') {s : Nat} (hs8 : s < 8) : mkW σ' s = mkW σ s := by
  funext d
  unfold mkW
  rw [hs 33 (by decide), hs 34 (by decide), hs 35 (by decide), hs 2 (by decide), hs (8 + s) (by simp; omega)]
theorem mm_aMost {σ σ' : Mem} (hs : Same MSC σ σ') (h8 : σ 0 2 ≤ 8) {s : Nat} (hs8 : s < 8) : aMost σ' s = aMost σ s := by
  unfold aMost
  rw [mm_nvB hs h8, mm_mkW hs hs8, hs 2 (by decide)]
theorem mm_qtQ {σ σ' : Mem} (hs : Same MSC σ σ') (h8 : σ 0 2 ≤ 8) (a b : Int) : qtQ σ' a b = qtQ σ a b := by
  funext h
  unfold qtQ qtN
  rw [hs 33 (by decide), hs 34 (by decide), hs 35 (by decide), hs 2 (by decide), hs 25 (by decide), hs 0 (by decide)]
  congr 2
  refine cnt_cg (fun s h => ?_)
  rw [hs (8 + s) (by simp; omega)]
theorem mm_allS {σ σ' : Mem} (hs : Same MSC σ σ') {n : Nat} (h8 : n ≤ 8) : allS σ' n = allS σ n := by
  induction n with
  | zero => rfl
  | succ n ih =>
    funext d
    simp only [allS]
    rw [ih (by omega), cFT_mm hs (by omega)]
theorem mm_fgM {σ σ' : Mem} (hs : Same MSC σ σ') (h8 : σ 0 2 ≤ 8) (d : Int) : fgM σ' d = fgM σ d := by
  unfold fgM
  rw [mm_cntT hs h8]
theorem mm_fgT {σ σ' : Mem} (hs : Same MSC σ σ') (h8 : σ 0 2 ≤ 8) (c d : Int) : fgT σ' c d = fgT σ c d := by
  unfold fgT
  rw [mm_fgM hs h8, hs 25 (by decide)]
theorem mm_crtP {σ σ' : Mem} (hs : Same MSC σ σ') (h8 : σ 0 2 ≤ 8) (x n : Int) : crtP σ' x n = crtP σ x n := by
  unfold crtP
  rw [hs 25 (by decide), hs 0 (by decide)]
  refine cnt_cg (fun d hd => ?_)
  have e : cnt (fun s => cTSr σ' (crH x) (crO x) (crS x) n.toNat s (d : Int)) (σ 0 2).toNat = cnt (fun s => cTSr σ (crH x) (crO x) (crS x) n.toNat s (d : Int)) (σ 0 2).toNat :=
    cnt_cg (fun s h => by unfold cTSr; rw [hs (8 + s) (by simp; omega), hs 25 (by decide)])
  rw [e]
theorem mm_crtM {σ σ' : Mem} (hs : Same MSC σ σ') (h8 : σ 0 2 ≤ 8) (x n : Int) : crtM σ' x n = crtM σ x n := by
  unfold crtM
  rw [hs 0 (by decide)]
  refine sumN_cg (fun s h => ?_)
  rw [hs (8 + s) (by simp; omega)]
theorem mm_cWk {σ σ' : Mem} (hs : Same MSC σ σ') {s : Nat} (hs8 : s < 8) : cWk σ' s = cWk σ s := by
  unfold cWk
  rw [hs 33 (by decide), hs 34 (by decide), hs 35 (by decide), hs 2 (by decide), hs (8 + s) (by simp; omega)]
theorem mm_cNd {σ σ' : Mem} (hs : Same MSC σ σ') (h8 : σ 0 2 ≤ 8) (d i : Int) : cNd σ' d i = cNd σ d i := by
  unfold cNd
  rw [mm_cntT hs h8, mm_bT hs h8, hs 25 (by decide)]
theorem mm_cPf {σ σ' : Mem} (hs : Same MSC σ σ') (h8 : σ 0 2 ≤ 8) (d w : Int) : cPf σ' d w = cPf σ d w := by
  unfold cPf
  rw [mm_cntT hs h8, mm_bT hs h8, hs 25 (by decide)]
theorem mm_cHe {σ σ' : Mem} (hs : Same MSC σ σ') {s : Nat} (hs8 : s < 8) (d w : Int) : cHe σ' d s w = cHe σ d s w := by
  unfold cHe
  rw [cFT_mm hs hs8, cTS_mm hs hs8, hs (8 + s) (by simp; omega), hs 34 (by decide), hs 35 (by decide)]
theorem mm_cDe {σ σ' : Mem} (hs : Same MSC σ σ') (d w : Int) : cDe σ' d w = cDe σ d w := by
  unfold cDe
  rw [hs 33 (by decide), hs 34 (by decide), hs 35 (by decide)]
theorem mm_cQu {σ σ' : Mem} (hs : Same MSC σ σ') (h8 : σ 0 2 ≤ 8) (so i : Int) : cQu σ' so i = cQu σ so i := by
  unfold cQu
  rw [mm_qtQ hs h8, hs 2 (by decide)]
theorem mm_cBA {σ σ' : Mem} (hs : Same MSC σ σ') (h8 : σ 0 2 ≤ 8) : cBA σ' = cBA σ := by
  unfold cBA
  rw [hs 0 (by decide), hs 2 (by decide), mm_allS hs (by omega)]
theorem mm_best {σ σ' : Mem} (hs : Same MSC σ σ') (h8 : σ 0 2 ≤ 8) : amx (cMany σ') (σ' 0 2).toNat = amx (cMany σ) (σ 0 2).toNat := by
  rw [hs 0 (by decide)]
  exact (amxv_cg (fun k hk => mm_many hs (by omega)) (fun k _ => (cMany_in σ' k).1)).1
theorem mm_ask {σ σ' : Mem} (hs : Same MSC σ σ') (h8 : σ 0 2 ≤ 8) (hn : σ 2 4 ≤ 8) : amx (aMost σ') (σ' 0 2).toNat = amx (aMost σ) (σ 0 2).toNat := by
  rw [hs 0 (by decide)]
  refine (amxv_cg (fun k hk => mm_aMost hs h8 (by omega)) (fun k hk => ?_)).1
  have := mAl_in (nvB σ') (mkW σ' k) (σ' 2 4).toNat
  rw [hs 2 (by decide)] at this
  unfold aMost
  rw [hs 2 (by decide)]
  omega
