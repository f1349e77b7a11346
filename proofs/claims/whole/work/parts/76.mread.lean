/-! what the model reads off its rows -/
def tsB (σ : Mem) (d k : Int) : Bool := decide (σ 65 (8 * d + k) ≠ 0)
def whN (σ : Mem) (d : Int) : Int := cnt (fun k : Nat => tsB σ d (k : Int)) (σ 1 2).toNat
def prB (σ : Mem) (d : Int) : Bool := mP σ d && decide (σ 1 13 ≤ whN σ d)
def mkN (σ : Mem) (k so : Int) : Int := cnt (fun d : Nat => decide (σ 64 (8 * (d : Int) + k) = 3 ∧ (so = -1 ∨ σ 61 (d : Int) = so))) (σ 1 7).toNat
def mnN (σ : Mem) (k : Int) : Int := cnt (fun d : Nat => tsB σ (d : Int) k) (σ 1 7).toNat
theorem cnt_one {p p' : Nat → Bool} {n a : Nat} (ha : a < n) (h : ∀ d, d ≠ a → p d = p' d) (h0 : p' a = false) : cnt p n = cnt p' n + (if p a = true then 1 else 0) := by
  induction n with
  | zero => omega
  | succ n ih =>
    simp only [cnt]
    by_cases c : a = n
    · subst c
      rw [cnt_cg (fun k hk => h k (by omega)), h0]
      simp
    · rw [ih (by omega), h n (fun q => c q.symm)]
      omega
theorem cnL_cnt {z hr ho so : Int → Int} {f : Int} (hf : f ≠ 0) (q : Int → Bool) {n : Nat} {es : List Int} (hn : es.Nodup) (he : ∀ e ∈ es, 0 ≤ e ∧ e < n) (l : Int) : cnL z hr ho so f q es l = cnt (fun d : Nat => decide (ftL z hr ho so (d : Int) es l = f) && q (d : Int)) n := by
  have hf' : ¬ (0 : Int) = f := fun w => hf w.symm
  induction es generalizing l with
  | nil =>
    rw [cnt_0 (fun k _ => by show (decide ((0 : Int) = f) && q k) = false; rw [decide_eq_false hf']; rfl)]
    rfl
  | cons a es ih =>
    have h2 := List.nodup_cons.mp hn
    have ha := he a List.mem_cons_self
    simp only [cnL]
    rw [ih h2.2 (fun e q => he e (List.mem_cons_of_mem _ q))]
    have e1 := cnt_one (p := fun d : Nat => decide (ftL z hr ho so (d : Int) (a :: es) l = f) && q (d : Int)) (p' := fun d : Nat => decide (ftL z hr ho so (d : Int) es (lnw z hr ho so a l) = f) && q (d : Int)) (n := n) (a := a.toNat) (by omega) (fun d hd => by
      have hne : ¬ a = (d : Int) := by omega
      have e2 : ftL z hr ho so (d : Int) (a :: es) l = ftL z hr ho so (d : Int) es (lnw z hr ho so a l) := by simp only [ftL]; rw [if_neg hne]
      show (decide (ftL z hr ho so (d : Int) (a :: es) l = f) && q d) = _
      rw [e2]) (by
      have ea : ((a.toNat : Nat) : Int) = a := by omega
      show (decide (ftL z hr ho so ((a.toNat : Nat) : Int) es (lnw z hr ho so a l) = f) && q ((a.toNat : Nat) : Int)) = false
      rw [ea, ftL_nin h2.1, decide_eq_false hf']
      rfl)
    rw [e1]
    have ea : ((a.toNat : Nat) : Int) = a := by omega
    simp only [ea, ftL, if_true, Bool.and_eq_true, decide_eq_true_eq]
    omega
theorem tsB_if {σ : Mem} {d k : Int} {b : Bool} (h : σ 65 (8 * d + k) = if b = true then 1 else 0) : tsB σ d k = b := by
  unfold tsB
  rw [h]
  cases b <;> simp
theorem RT.ts {σ : Mem} (h : RT σ) {s : Nat} (hs : (s : Int) < σ 0 2) {d : Int} (hd : 0 ≤ d ∧ d < σ 2 4) : tsB σ d s = cTS σ s d := tsB_if ((h.2.2.2 s hs).1 d hd.1 hd.2).2
theorem RT.wh {σ : Mem} (h : RT σ) {d : Int} (hd : 0 ≤ d ∧ d < σ 2 4) : whN σ d = cnt (fun s => cTS σ s d) (σ 0 2).toNat ∧ bsum (fun k : Nat => tsB σ d (k : Int)) (σ 1 2).toNat = bsum (fun s => cTS σ s d) (σ 0 2).toNat := by
  have hn := h.1.1.ns
  unfold whN
  rw [h.1.2.2.1]
  exact ⟨cnt_cg (fun s hs => h.ts (by omega) hd), bsum_cg (fun s hs => h.ts (by omega) hd)⟩
theorem RT.many {σ : Mem} (h : RT σ) {s : Nat} (hs : (s : Int) < σ 0 2) : mnN σ s = cMany σ s := by
  have hn := h.1.1.row.1
  unfold mnN cMany
  rw [h.1.2.2.2.1]
  exact cnt_cg (fun d hd => h.ts hs (by omega))
theorem RT.mk {σ : Mem} (h : RT σ) {s : Nat} (hs : (s : Int) < σ 0 2) : mkN σ s (-1) = cnL (σ (8 + s)) (σ 33) (σ 34) (σ 35) 3 (fun _ => true) (evs (σ 33) (σ 2 4).toNat 50) (σ (8 + s) 1) := by
  have hn := h.1.1.row.1
  rw [cnL_cnt (by decide) _ (evs_nodup _ _ _) (fun e he => (evs_mem.mp he).1)]
  unfold mkN
  rw [h.1.2.2.2.1]
  refine cnt_cg (fun d hd => ?_)
  rw [((h.2.2.2 s hs).1 d (by omega) (by omega)).1]
  unfold cFT
  simp
theorem mP_0 {σ : Mem} (h : σ 1 14 = 0) (d : Int) : mP σ d = true := by
  unfold mP
  rw [h]
  simp
theorem RT.lw {σ : Mem} (h : RT σ) : σ 1 13 = σ 25 2 := h.1.2.1.2.2.2.2.2
theorem RT.pr {σ : Mem} (h : RT σ) {d : Int} (hd : 0 ≤ d ∧ d < σ 2 4) : prB σ d = decide (σ 25 2 ≤ cnt (fun s => cTS σ s d) (σ 0 2).toNat) := by
  unfold prB
  rw [mP_0 h.2.1, (h.wh hd).1, h.lw]
  rfl
theorem cnt_k (p : Int → Bool) {k : Int} (hk : 0 ≤ k) : cnt (fun j : Nat => p (j : Int)) (k + 1).toNat = cnt (fun j : Nat => p (j : Int)) k.toNat + (if p k = true then 1 else 0) := by
  have e : ((k.toNat : Nat) : Int) = k := by omega
  rw [show (k + 1).toNat = k.toNat + 1 by omega]
  simp only [cnt, e]
theorem bsum_k (p : Int → Bool) {k : Int} (hk : 0 ≤ k) : bsum (fun j : Nat => p (j : Int)) (k + 1).toNat = bsum (fun j : Nat => p (j : Int)) k.toNat + (if p k = true then 2 ^ k.toNat else 0) := by
  have e : ((k.toNat : Nat) : Int) = k := by omega
  rw [show (k + 1).toNat = k.toNat + 1 by omega]
  simp only [bsum, e]
theorem sumN_k (f : Int → Int) {k : Int} (hk : 0 ≤ k) : sumN (fun j : Nat => f (j : Int)) (k + 1).toNat = sumN (fun j : Nat => f (j : Int)) k.toNat + f k := by
  have e : ((k.toNat : Nat) : Int) = k := by omega
  rw [show (k + 1).toNat = k.toNat + 1 by omega]
  simp only [sumN, e]
theorem tsB_t {σ : Mem} {d k : Int} (h : σ 65 (8 * d + k) ≠ 0) : tsB σ d k = true := decide_eq_true h
theorem tsB_f {σ : Mem} {d k : Int} (h : σ 65 (8 * d + k) = 0) : ¬ tsB σ d k = true := fun q => (of_decide_eq_true q) h
