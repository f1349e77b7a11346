/-! answers don't depend on scratch cells -/
theorem amx_cg {f g : Nat → Int} {n : Nat} (h : ∀ k, k < n → f k = g k) : amx f n = amx g n ∧ (∀ k, k < n → 0 ≤ f k) → amx f n = amx g n := fun q => q.1
theorem amxv_cg {f g : Nat → Int} {n : Nat} (h : ∀ k, k < n → f k = g k) (h0 : ∀ k, k < n → 0 ≤ f k) : amx f n = amx g n ∧ amv f n = amv g n := by
  induction n with
  | zero => exact ⟨rfl, rfl⟩
  | succ n ih =>
    obtain ⟨a, b⟩ := ih (fun k hk => h k (by omega)) (fun k hk => h0 k (by omega))
    simp only [amx, amv]
    rw [a, b, h n (by omega)]
    refine ⟨?_, rfl⟩
    by_cases hn : n = 0
    · subst hn; simp [amx]
    · have hA := (amx_amv (f := g) (n := n) (fun k hk => by rw [← h k (by omega)]; exact h0 k (by omega))).2 (by omega)
      rw [h (amx g n).toNat (by omega)]
section SAME
variable {σ σ' : Mem}
theorem sm_cntT (hs : Same SC σ σ') (h8 : σ 0 2 ≤ 8) (d : Int) : cnt (fun s => cTS σ' s d) (σ' 0 2).toNat = cnt (fun s => cTS σ s d) (σ 0 2).toNat := by
  rw [hs 0 (by decide)]
  exact cnt_cg (fun s h => cTS_same hs (by omega) d)
theorem sm_bT (hs : Same SC σ σ') (h8 : σ 0 2 ≤ 8) (d : Int) : bsum (fun s => cTS σ' s d) (σ' 0 2).toNat = bsum (fun s => cTS σ s d) (σ 0 2).toNat := by
  rw [hs 0 (by decide)]
  exact bsum_cg (fun s h => cTS_same hs (by omega) d)
theorem sm_many (hs : Same SC σ σ') {s : Nat} (h8 : s < 8) : cMany σ' s = cMany σ s := by
  unfold cMany
  rw [hs 2 (by decide)]
  exact cnt_cg (fun d h => cTS_same hs h8 _)
theorem sm_TSz (hs : Same SC σ σ') (z : Int → Int) (d : Int) : TSz σ' z d = TSz σ z d := by
  unfold TSz
  rw [hs 33 (by decide), hs 34 (by decide), hs 35 (by decide), hs 2 (by decide), hs 25 (by decide)]
theorem sm_mvP (hs : Same SC σ σ') (h8 : σ 0 2 ≤ 8) {s : Nat} (hs8 : s < 8) : mvP σ' s = mvP σ s := by
  funext h
  unfold mvP
  rw [hs 2 (by decide), hs 25 (by decide), hs 0 (by decide), hs (8 + s) (by simp; omega)]
  refine cnt_cg (fun d hd => ?_)
  have e : cnt (fun j : Nat => if j = s then TSz σ' (zHo (σ (8 + s)) (h : Int)) (d : Int) else cTS σ' j (d : Int)) (σ 0 2).toNat = cnt (fun j : Nat => if j = s then TSz σ (zHo (σ (8 + s)) (h : Int)) (d : Int) else cTS σ j (d : Int)) (σ 0 2).toNat :=
    cnt_cg (fun j hj => by rw [sm_TSz hs, cTS_same hs (by omega)])
  rw [e]
theorem sm_fdP (hs : Same SC σ σ') {s : Nat} (hs8 : s < 8) : fdP σ' s = fdP σ s := by
  funext h
  unfold fdP
  rw [hs 2 (by decide), hs (8 + s) (by simp; omega)]
  exact cnt_cg (fun d hd => sm_TSz hs _ _)
theorem sm_dpH (hs : Same SC σ σ') {s : Nat} (hs8 : s < 8) (k : Int) : dpH σ' s k = dpH σ s k := by
  unfold dpH
  rw [hs 2 (by decide), hs 33 (by decide), hs 34 (by decide), hs 35 (by decide), hs (8 + s) (by simp; omega)]
theorem sm_cPr (hs : Same SC σ σ') (h8 : σ 0 2 ≤ 8) : cPr σ' = cPr σ := by
  unfold cPr
  rw [hs 2 (by decide), hs 25 (by decide)]
  refine cnt_cg (fun d hd => ?_)
  rw [sm_cntT hs h8]
theorem sm_cSm (hs : Same SC σ σ') (h8 : σ 0 2 ≤ 8) (f : Int) : cSm σ' f = cSm σ f := by
  unfold cSm
  rw [hs 2 (by decide), hs 0 (by decide), hs 33 (by decide), hs 34 (by decide), hs 35 (by decide)]
  refine sumN_cg (fun s h => ?_)
  rw [hs (8 + s) (by simp; omega)]
theorem sm_cCt (hs : Same SC σ σ') (h8 : σ 0 2 ≤ 8) (w : Int) : cCt σ' w = cCt σ w := by
  unfold cCt
  rw [hs 0 (by decide), hs 2 (by decide), hs 16 (by decide), hs 17 (by decide), hs 4 (by decide), sm_cPr hs h8, sm_cSm hs h8, sm_cSm hs h8]
theorem sm_cmB (hs : Same SC σ σ') (h8 : σ 0 2 ≤ 8) (hr ho so : Int → Int) (n m : Nat) : cmB σ' hr ho so n m = cmB σ hr ho so n m :=
  cmB_cg (by rw [hs 0 (by decide)]) h8 (hs 41 (by decide)) (hs 42 (by decide)) (hs 43 (by decide)) (fun s h => hs (8 + s) (by simp; omega)) (fun d _ _ => ⟨rfl, rfl, rfl⟩) m
theorem sm_nvB (hs : Same SC σ σ') (h8 : σ 0 2 ≤ 8) : nvB σ' = nvB σ := by
  funext d
  unfold nvB
  rw [hs 33 (by decide), hs 34 (by decide), hs 35 (by decide), hs 2 (by decide), hs 4 (by decide), sm_cmB hs h8]
theorem sm_plB (hs : Same SC σ σ') (h8 : σ 0 2 ≤ 8) (d : Int) : plB σ' d = plB σ d := by
  funext h
  unfold plB
  rw [hs 33 (by decide), hs 34 (by decide), hs 35 (by decide), hs 2 (by decide), hs 4 (by decide), sm_cmB hs h8]
theorem sm_mkW (hs : Same SC σ σ') {s : Nat} (hs8 : s < 8) : mkW σ' s = mkW σ s := by
  funext d
  unfold mkW
  rw [hs 33 (by decide), hs 34 (by decide), hs 35 (by decide), hs 2 (by decide), hs (8 + s) (by simp; omega)]
theorem sm_aMost (hs : Same SC σ σ') (h8 : σ 0 2 ≤ 8) {s : Nat} (hs8 : s < 8) : aMost σ' s = aMost σ s := by
  unfold aMost
  rw [sm_nvB hs h8, sm_mkW hs hs8, hs 2 (by decide)]
theorem sm_qtQ (hs : Same SC σ σ') (h8 : σ 0 2 ≤ 8) (a b : Int) : qtQ σ' a b = qtQ σ a b := by
  funext h
  unfold qtQ qtN
  rw [hs 33 (by decide), hs 34 (by decide), hs 35 (by decide), hs 2 (by decide), hs 25 (by decide), hs 0 (by decide)]
  congr 2
  refine cnt_cg (fun s h => ?_)
  rw [hs (8 + s) (by simp; omega)]
theorem sm_allS (hs : Same SC σ σ') {n : Nat} (h8 : n ≤ 8) : allS σ' n = allS σ n := by
  induction n with
  | zero => rfl
  | succ n ih =>
    funext d
    simp only [allS]
    rw [ih (by omega), cFT_same hs (by omega)]
theorem sm_fgM (hs : Same SC σ σ') (h8 : σ 0 2 ≤ 8) (d : Int) : fgM σ' d = fgM σ d := by
  unfold fgM
  rw [sm_cntT hs h8]
theorem sm_fgT (hs : Same SC σ σ') (h8 : σ 0 2 ≤ 8) (c d : Int) : fgT σ' c d = fgT σ c d := by
  unfold fgT
  rw [sm_fgM hs h8, hs 25 (by decide)]
theorem sm_crtP (hs : Same SC σ σ') (h8 : σ 0 2 ≤ 8) (x n : Int) : crtP σ' x n = crtP σ x n := by
  unfold crtP
  rw [hs 25 (by decide), hs 0 (by decide)]
  refine cnt_cg (fun d hd => ?_)
  have e : cnt (fun s => cTSr σ' (crH x) (crO x) (crS x) n.toNat s (d : Int)) (σ 0 2).toNat = cnt (fun s => cTSr σ (crH x) (crO x) (crS x) n.toNat s (d : Int)) (σ 0 2).toNat :=
    cnt_cg (fun s h => by unfold cTSr; rw [hs (8 + s) (by simp; omega), hs 25 (by decide)])
  rw [e]
theorem sm_crtM (hs : Same SC σ σ') (h8 : σ 0 2 ≤ 8) (x n : Int) : crtM σ' x n = crtM σ x n := by
  unfold crtM
  rw [hs 0 (by decide)]
  refine sumN_cg (fun s h => ?_)
  rw [hs (8 + s) (by simp; omega)]
end SAME
def w32 (a : Int) : Int := (I a).toInt
theorem R_i2lw {Θ : Th} {Γ : Gm} {Y : Mt} {pc : Nat} {L : List (Nat × Value)} {st : List Value} {σ : Mem} (hB : Base Θ Γ Y) {a : Int} (hd : decode Y.2.1 pc = .ok (.i2l, 1)) (k : Run Θ Γ (pc + 1) L (.long (Jl (w32 a)) :: st) σ) : Run Θ Γ pc L (.int (I a) :: st) σ := by
  rw [show I a = I (w32 a) from (I_of (I a)).symm]
  exact R_i2l hB (I_rng _) hd k
def rdA : Nat → Int → Int
  | 0, a => a
  | e + 1, a => if a % 2 = 1 then a else rdA e (a / 2)
def rdB : Nat → Int → Int
  | 0, _ => 1
  | e + 1, a => if a % 2 = 1 then 2 ^ (e + 1) else rdB e (a / 2)
theorem RedQ_rd {top : Int} {e : Nat} {a b : Int} (h : RedQ top e a b) : a = rdA e top ∧ b = rdB e top := by
  induction e generalizing top with
  | zero =>
    obtain ⟨j, h1, h2, h3, -⟩ := h
    have : j = 0 := by omega
    subst this
    simp at h2 h3
    exact ⟨h2, h3⟩
  | succ e ih =>
    obtain ⟨j, h1, h2, h3, h4⟩ := h
    cases j with
    | zero =>
      have h2' : a = top := by simpa using h2
      have h3' : b = 2 ^ (e + 1) := by simpa using h3
      have ho : a % 2 = 1 := by
        rcases h4 with q | q
        · exfalso
          rw [h3', Int.pow_succ] at q
          have := p2_pos e
          omega
        · exact q
      rw [← h2']
      simp only [rdA, rdB, ho, if_true]
      exact ⟨trivial, h3'⟩
    | succ j =>
      have he : a * 2 ^ j * 2 = top := by rw [Int.mul_assoc, ← Int.pow_succ]; exact h2
      have hne : ¬ top % 2 = 1 := by omega
      simp only [rdA, rdB, if_neg hne]
      refine ih ⟨j, by omega, by omega, ?_, h4⟩
      rw [h3]; congr 1; omega
/-- the first fault, as a number -/
noncomputable def fzV (t : Nat) (b : Int → Int) (n : Int) : Int := Classical.epsilon (fun z => FFz t b n z)
theorem fzV_eq {t : Nat} {b : Int → Int} {n z : Int} (h : FFz t b n z) : z = fzV t b n := FFz_un h (Classical.epsilon_spec (p := fun z => FFz t b n z) ⟨z, h⟩)
def dgN (f : Nat → Int) : Nat → Int → Int
  | 0, h => h
  | n + 1, h => 31 * dgN f n h + f n
def itN (g : Nat → Int → Int) : Nat → Int → Int
  | 0, h => h
  | n + 1, h => g n (itN g n h)
def cWk (σ : Mem) (s : Nat) : Int := cnL (σ (8 + s)) (σ 33) (σ 34) (σ 35) 2 (fun _ => true) (evs (σ 33) (σ 2 4).toNat 50) (σ (8 + s) 1)
theorem sm_cWk {σ σ' : Mem} (hs : Same SC σ σ') {s : Nat} (hs8 : s < 8) : cWk σ' s = cWk σ s := by
  unfold cWk
  rw [hs 33 (by decide), hs 34 (by decide), hs 35 (by decide), hs 2 (by decide), hs (8 + s) (by simp; omega)]
def dSl (σ : Mem) (s : Nat) (h : Int) : Int := 31 * (31 * (31 * (31 * (31 * (31 * (31 * (31 * (31 * dgN (fun w => w32 (σ (8 + s) (w : Int))) 4 h + w32 (dpH σ s 5)) + w32 (dpH σ s 20)) + w32 (dpH σ s 49)) + w32 (cWk σ s)) + w32 (cMany σ s)) + w32 (amx (mvP σ s) 10)) + w32 (amv (mvP σ s) 10)) + w32 (amx (fdP σ s) 4)) + w32 (amv (fdP σ s) 4)
def cNd (σ : Mem) (d i : Int) : Int := if 2 < max 0 (cnt (fun s => cTS σ s d) (σ 0 2).toNat - σ 25 2 + 1) then -1 else if i = -1 then max 0 (cnt (fun s => cTS σ s d) (σ 0 2).toNat - σ 25 2 + 1) else if i < max 0 (cnt (fun s => cTS σ s d) (σ 0 2).toNat - σ 25 2 + 1) then nthB (fun k : Nat => decide (bsum (fun s => cTS σ s d) (σ 0 2).toNat / 2 ^ k % 2 = 1)) i 8 else -1
def cPf (σ : Mem) (d w : Int) : Int := if w = 0 then bsum (fun s => cTS σ s d) (σ 0 2).toNat else if w = 1 then (if σ 25 2 ≤ cnt (fun s => cTS σ s d) (σ 0 2).toNat then 1 else 0) else max 0 (σ 25 2 - cnt (fun s => cTS σ s d) (σ 0 2).toNat)
def cHe (σ : Mem) (d : Int) (s : Nat) (w : Int) : Int := if w = 0 then ldw (σ (8 + s)) (σ 34) (σ 35) d else if w = 1 then cFT σ s d else if cTS σ s d = true then 1 else 0
def cDe (σ : Mem) (d w : Int) : Int := if w = 0 then σ 33 d else if w = 1 then σ 34 d else σ 35 d
theorem sm_cNd {σ σ' : Mem} (hs : Same SC σ σ') (h8 : σ 0 2 ≤ 8) (d i : Int) : cNd σ' d i = cNd σ d i := by
  unfold cNd
  rw [sm_cntT hs h8, sm_bT hs h8, hs 25 (by decide)]
theorem sm_cPf {σ σ' : Mem} (hs : Same SC σ σ') (h8 : σ 0 2 ≤ 8) (d w : Int) : cPf σ' d w = cPf σ d w := by
  unfold cPf
  rw [sm_cntT hs h8, sm_bT hs h8, hs 25 (by decide)]
theorem sm_cHe {σ σ' : Mem} (hs : Same SC σ σ') {s : Nat} (hs8 : s < 8) (d w : Int) : cHe σ' d s w = cHe σ d s w := by
  unfold cHe
  rw [cFT_same hs hs8, cTS_same hs hs8, hs (8 + s) (by simp; omega), hs 34 (by decide), hs 35 (by decide)]
theorem sm_cDe {σ σ' : Mem} (hs : Same SC σ σ') (d w : Int) : cDe σ' d w = cDe σ d w := by
  unfold cDe
  rw [hs 33 (by decide), hs 34 (by decide), hs 35 (by decide)]
def dDd (σ : Mem) (d : Int) (h : Int) : Int := itN (fun s h => dgN (fun w => w32 (cHe σ d s (w : Int))) 3 h) (σ 0 2).toNat (31 * (31 * (31 * (31 * (31 * dgN (fun w => w32 (cPf σ d (w : Int))) 3 (dgN (fun w => w32 (cDe σ d (w : Int))) 3 h) + w32 (bsum (plB σ d) 10)) + w32 (cNd σ d (-1))) + w32 (cNd σ d 0)) + rdA (4 * fgM σ d) (fgT σ 5 d)) + rdB (4 * fgM σ d) (fgT σ 5 d))
def cQu (σ : Mem) (so i : Int) : Int := if σ 2 4 = 8 then -3 else if i = -1 then cnt (qtQ σ 4 so) 50 else nthB (qtQ σ 4 so) i 50
theorem sm_cQu {σ σ' : Mem} (hs : Same SC σ σ') (h8 : σ 0 2 ≤ 8) (so i : Int) : cQu σ' so i = cQu σ so i := by
  unfold cQu
  rw [sm_qtQ hs h8, hs 2 (by decide)]
def cBA (σ : Mem) : Int := if σ 0 2 = 0 then -1 else nthB (allS σ (σ 0 2).toNat) 0 (σ 2 4).toNat
theorem sm_cBA {σ σ' : Mem} (hs : Same SC σ σ') (h8 : σ 0 2 ≤ 8) : cBA σ' = cBA σ := by
  unfold cBA
  rw [hs 0 (by decide), hs 2 (by decide), sm_allS hs (by omega)]
theorem sm_best {σ σ' : Mem} (hs : Same SC σ σ') (h8 : σ 0 2 ≤ 8) : amx (cMany σ') (σ' 0 2).toNat = amx (cMany σ) (σ 0 2).toNat := by
  rw [hs 0 (by decide)]
  exact (amxv_cg (fun k hk => sm_many hs (by omega)) (fun k _ => (cMany_in σ' k).1)).1
theorem sm_ask {σ σ' : Mem} (hs : Same SC σ σ') (h8 : σ 0 2 ≤ 8) (hn : σ 2 4 ≤ 8) : amx (aMost σ') (σ' 0 2).toNat = amx (aMost σ) (σ 0 2).toNat := by
  rw [hs 0 (by decide)]
  refine (amxv_cg (fun k hk => sm_aMost hs h8 (by omega)) (fun k hk => ?_)).1
  have := mAl_in (nvB σ') (mkW σ' k) (σ' 2 4).toNat
  rw [hs 2 (by decide)] at this
  unfold aMost
  rw [hs 2 (by decide)]
  omega
noncomputable def dig (σ : Mem) : Int := 31 * (31 * (31 * (31 * (31 * (31 * itN (fun q h => 31 * (31 * h + w32 (cQu σ (q : Int) (-1))) + w32 (cQu σ (q : Int) 0)) 4 (itN (fun d h => dDd σ (d : Int) h) (σ 2 4).toNat (itN (fun s h => dSl σ s h) (σ 0 2).toNat (31 * (31 * dgN (fun w => w32 (cCt σ (w : Int))) 8 17 + w32 (fzV 0 (σ 29) (σ 16 3))) + w32 (fzV 1 (σ 30) (σ 17 3))))) + w32 (amx (cMany σ) (σ 0 2).toNat)) + w32 (cBA σ)) + w32 (bsum (nvB σ) (σ 2 4).toNat)) + w32 (amx (aMost σ) (σ 0 2).toNat)) + w32 (crtP σ 7 8)) + w32 (crtM σ 7 8)
