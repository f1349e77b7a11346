/-! sleepers away: whom a proof needs -/
theorem RR.tsl {σ : Mem} (h : RR σ) (h14 : σ 1 14 = 0) {s : Nat} (hs : (s : Int) < σ 0 2) {d : Int} (hd : 0 ≤ d ∧ d < σ 2 4) : mTS σ s d = (cTS σ s d && decide (σ 1 15 / 2 ^ s % 2 ≠ 1)) := by
  have hz := h.z hs
  have hl := h.2.1.2.2.2
  have ht := tsL_cg hz (h.he 50) (σ (8 + s) 1) (σ 25 0) (σ 25 1) (d := d) (h.2.2.2.2.2 d hd.1 hd.2).1
  unfold mTS cTS
  rw [h.ev h14, (h.2.2.2.2.1 s hs).2.1, hl.1, hl.2.1, ht]
  rfl
theorem away_w {σ σ' : Mem} (h : RR σ) (h14 : σ 1 14 = 0) {d : Int} (hd : 0 ≤ d ∧ d < σ 2 4) (hq : RunQ σ σ') : prB σ' d = decide (σ 25 2 ≤ cnt (fun s : Nat => cTS σ s d && decide (σ 1 15 / 2 ^ s % 2 ≠ 1)) (σ 0 2).toNat) := by
  have hns := h.1.ns
  rw [hq.pr (by rw [h.2.2.1]; omega) (by rw [h.2.2.2.1]; exact hd), mP_0 h14, Bool.true_and, h.2.2.1, h.2.1.2.2.2.2.2]
  have e : cnt (fun k : Nat => mTS σ (k : Int) d) (σ 0 2).toNat = cnt (fun s : Nat => cTS σ s d && decide (σ 1 15 / 2 ^ s % 2 ≠ 1)) (σ 0 2).toNat := cnt_cg (fun s hs => h.tsl h14 (by omega) hd)
  rw [e]
theorem aw_0 (T : Nat → Bool) (N : Nat) : cnt (fun s : Nat => T s && decide ((0 : Int) / 2 ^ s % 2 ≠ 1)) N = cnt T N := cnt_cg (fun s _ => by simp)
theorem bit_1 : ∀ a : Nat, a < 8 → ∀ s : Nat, s < 8 → ((2 : Int) ^ a / 2 ^ s % 2 = 1 ↔ s = a) := by decide +kernel
theorem bit_2 : ∀ a : Nat, a < 8 → ∀ b : Nat, b < 8 → a < b → ∀ s : Nat, s < 8 → (((2 : Int) ^ a + 2 ^ b) / 2 ^ s % 2 = 1 ↔ s = a ∨ s = b) := by decide +kernel
theorem aw_1 (T : Nat → Bool) {N a : Nat} (hN : N ≤ 8) (ha : a < N) : cnt (fun s : Nat => T s && decide ((2 : Int) ^ a / 2 ^ s % 2 ≠ 1)) N = cnt T N - (if T a = true then 1 else 0) := by
  have e : cnt (fun s : Nat => T s && decide ((2 : Int) ^ a / 2 ^ s % 2 ≠ 1)) N = cnt (fun s : Nat => T s && decide (s ≠ a)) N := cnt_cg (fun s hs => by
    have := bit_1 a (by omega) s (by omega)
    by_cases c : s = a
    · rw [decide_eq_false (fun q => q (this.mpr c)), decide_eq_false (fun q => q c)]
    · rw [decide_eq_true (p := (2 : Int) ^ a / 2 ^ s % 2 ≠ 1) (fun q => c (this.mp q)), decide_eq_true c])
  have h1 := cnt_one (p := T) (p' := fun s : Nat => T s && decide (s ≠ a)) ha (fun d hd => by simp [hd]) (by simp)
  rw [e, h1]
  omega
theorem aw_2 (T : Nat → Bool) {N a b : Nat} (hN : N ≤ 8) (hab : a < b) (hb : b < N) : cnt (fun s : Nat => T s && decide (((2 : Int) ^ a + 2 ^ b) / 2 ^ s % 2 ≠ 1)) N = cnt T N - (if T a = true then 1 else 0) - (if T b = true then 1 else 0) := by
  have e : cnt (fun s : Nat => T s && decide (((2 : Int) ^ a + 2 ^ b) / 2 ^ s % 2 ≠ 1)) N = cnt (fun s : Nat => (T s && decide (s ≠ a)) && decide (s ≠ b)) N := cnt_cg (fun s hs => by
    have := bit_2 a (by omega) b (by omega) hab s (by omega)
    rw [Bool.and_assoc]
    by_cases c : s = a ∨ s = b
    · rw [decide_eq_false (fun q => q (this.mpr c))]
      rcases c with c | c
      · rw [decide_eq_false (fun q => q c), Bool.false_and]
      · rw [decide_eq_false (p := s ≠ b) (fun q => q c)]; simp
    · rw [decide_eq_true (p := ((2 : Int) ^ a + 2 ^ b) / 2 ^ s % 2 ≠ 1) (fun q => c (this.mp q)), decide_eq_true (p := s ≠ a) (fun q => c (Or.inl q)), decide_eq_true (p := s ≠ b) (fun q => c (Or.inr q))]
      rfl)
  have h1 := cnt_one (p := T) (p' := fun s : Nat => T s && decide (s ≠ a)) (show a < N by omega) (fun d hd => by simp [hd]) (by simp)
  have h2 := cnt_one (p := fun s : Nat => T s && decide (s ≠ a)) (p' := fun s : Nat => (T s && decide (s ≠ a)) && decide (s ≠ b)) hb (fun d hd => by simp [hd]) (by simp)
  have h3 : (T b && decide (b ≠ a)) = T b := by rw [decide_eq_true (by omega), Bool.and_true]
  rw [h3] at h2
  rw [e]
  omega
theorem tbit (T : Nat → Bool) (N k : Nat) : decide (bsum T N / 2 ^ k % 2 = 1) = (decide (k < N) && T k) := by
  by_cases c : k < N
  · rw [bsum_bit T c, decide_eq_true c, Bool.true_and]
    cases T k <;> simp
  · have hb := bsum_in T N
    have hle : (2 : Int) ^ N ≤ 2 ^ k := by
      rw [← p2_cast N, ← p2_cast k]
      exact Int.ofNat_le.mpr (Nat.pow_le_pow_right (by decide) (by omega))
    rw [Int.ediv_eq_zero_of_lt hb.1 (by omega), decide_eq_false c]
    rfl
theorem cnt_two {T : Nat → Bool} {N : Nat} (h : 2 ≤ cnt T N) : ∃ a b, a < b ∧ b < N ∧ T a = true ∧ T b = true := by
  have one : ∀ N, 1 ≤ cnt T N → ∃ a, a < N ∧ T a = true := by
    intro N
    induction N with
    | zero => intro h; simp [cnt] at h
    | succ N ih =>
      intro h
      by_cases c : T N = true
      · exact ⟨N, by omega, c⟩
      · simp only [cnt] at h
        rw [if_neg c] at h
        obtain ⟨a, h1, h2⟩ := ih (by omega)
        exact ⟨a, by omega, h2⟩
  induction N with
  | zero => simp [cnt] at h
  | succ N ih =>
    by_cases c : T N = true
    · simp only [cnt] at h
      rw [if_pos c] at h
      obtain ⟨a, h1, h2⟩ := one N (by omega)
      exact ⟨a, N, h1, by omega, h2, c⟩
    · simp only [cnt] at h
      rw [if_neg c] at h
      obtain ⟨a, b, h1, h2, h3, h4⟩ := ih (by omega)
      exact ⟨a, b, h1, by omega, h3, h4⟩
theorem cnt_mono (p : Nat → Bool) (n m : Nat) : cnt p n ≤ cnt p (n + m) := by
  induction m with
  | zero => exact Int.le_refl _
  | succ m ih => rw [← Nat.add_assoc]; simp only [cnt]; split <;> omega
theorem cnt_skip {p : Nat → Bool} {n : Nat} (m : Nat) (h : ∀ k, n ≤ k → k < n + m → p k = false) : cnt p (n + m) = cnt p n := by
  induction m with
  | zero => rfl
  | succ m ih =>
    rw [← Nat.add_assoc]
    simp only [cnt]
    rw [ih (fun k q1 q2 => h k q1 (by omega)), h (n + m) (by omega) (by omega)]
    simp
def NbQ (σ σ' : Mem) (d r : Int) : Prop := ∀ i, -1 ≤ i → i < 2 → (if i = -1 then r else if i < r then σ' 67 i else -1) = cNd σ d i
theorem need_0 {σ σ' : Mem} {d : Int} (h : cnt (fun s => cTS σ s d) (σ 0 2).toNat < σ 25 2) : NbQ σ σ' d 0 := fun i h1 h2 => by
  unfold cNd
  have e : max 0 (cnt (fun s => cTS σ s d) (σ 0 2).toNat - σ 25 2 + 1) = 0 := by omega
  rw [e, if_neg (by omega : ¬ (2 : Int) < 0)]
  by_cases c : i = -1
  · rw [if_pos c, if_pos c]
  · rw [if_neg c, if_neg c, if_neg (by omega), if_neg (by omega)]
theorem need_1 {σ σ' : Mem} {d : Int} {a : Nat} (hn : σ 0 2 ≤ 8) (ha : (a : Int) < σ 0 2) (h : cnt (fun s => cTS σ s d) (σ 0 2).toNat = σ 25 2) (hT : cTS σ a d = true) (hf : ∀ j, j < a → cTS σ j d = false) (hp : σ' 67 0 = a) : NbQ σ σ' d 1 := fun i h1 h2 => by
  unfold cNd
  have e : max 0 (cnt (fun s => cTS σ s d) (σ 0 2).toNat - σ 25 2 + 1) = 1 := by omega
  rw [e, if_neg (by omega : ¬ (2 : Int) < 1)]
  by_cases c : i = -1
  · rw [if_pos c, if_pos c]
  · rw [if_neg c, if_neg c]
    by_cases c0 : i < 1
    · rw [if_pos c0, if_pos c0, show i = 0 by omega, hp]
      refine (nth_0 (k := a) (by omega) (fun j hj => ?_) ?_).symm
      · rw [tbit, hf j hj, Bool.and_false]
      · rw [tbit, decide_eq_true (by omega), hT]; rfl
    · rw [if_neg c0, if_neg c0]
theorem need_2 {σ σ' : Mem} {d : Int} {a b : Nat} (hn : σ 0 2 ≤ 8) (hab : a < b) (hb : (b : Int) < σ 0 2) (h : cnt (fun s => cTS σ s d) (σ 0 2).toNat = σ 25 2 + 1) (hT : cTS σ a d = true) (hU : cTS σ b d = true) (hf : ∀ j, j < b → j ≠ a → cTS σ j d = false) (hp : σ' 67 0 = a) (hq : σ' 67 1 = b) : NbQ σ σ' d 2 := fun i h1 h2 => by
  unfold cNd
  have e : max 0 (cnt (fun s => cTS σ s d) (σ 0 2).toNat - σ 25 2 + 1) = 2 := by omega
  rw [e, if_neg (by omega : ¬ (2 : Int) < 2)]
  have t1 : decide (bsum (fun s => cTS σ s d) (σ 0 2).toNat / 2 ^ a % 2 = 1) = true := by rw [tbit, decide_eq_true (by omega), hT]; rfl
  have t2 : decide (bsum (fun s => cTS σ s d) (σ 0 2).toNat / 2 ^ b % 2 = 1) = true := by rw [tbit, decide_eq_true (by omega), hU]; rfl
  have t3 : ∀ j, j < b → j ≠ a → decide (bsum (fun s => cTS σ s d) (σ 0 2).toNat / 2 ^ j % 2 = 1) = false := fun j q1 q2 => by rw [tbit, hf j q1 q2, Bool.and_false]
  by_cases c : i = -1
  · rw [if_pos c, if_pos c]
  · rw [if_neg c, if_neg c, if_pos h2, if_pos h2]
    by_cases c0 : i = 0
    · rw [c0, hp]
      exact (nth_0 (k := a) (by omega) (fun j hj => t3 j (by omega) (by omega)) t1).symm
    · rw [show i = 1 by omega, hq]
      have hc : cnt (fun k : Nat => decide (bsum (fun s => cTS σ s d) (σ 0 2).toNat / 2 ^ k % 2 = 1)) b = 1 := by
        have q := cnt_skip (p := fun k : Nat => decide (bsum (fun s => cTS σ s d) (σ 0 2).toNat / 2 ^ k % 2 = 1)) (n := a + 1) (b - (a + 1)) (fun k q1 q2 => t3 k (by omega) (by omega))
        rw [show a + 1 + (b - (a + 1)) = b by omega] at q
        rw [q]
        show cnt (fun k : Nat => decide (bsum (fun s => cTS σ s d) (σ 0 2).toNat / 2 ^ k % 2 = 1)) a + (if decide (bsum (fun s => cTS σ s d) (σ 0 2).toNat / 2 ^ a % 2 = 1) = true then 1 else 0) = 1
        rw [cnt_0 (fun k hk => t3 k (by omega) (by omega)), if_pos t1]
        rfl
      have := nthB_late (p := fun k : Nat => decide (bsum (fun s => cTS σ s d) (σ 0 2).toNat / 2 ^ k % 2 = 1)) (i := 1) (h := b) t2 hc (8 - (b + 1))
      rw [show b + 1 + (8 - (b + 1)) = 8 by omega] at this
      exact this.symm
theorem need_m {σ σ' : Mem} {d : Int} (h : σ 25 2 + 1 < cnt (fun s => cTS σ s d) (σ 0 2).toNat) : NbQ σ σ' d (-1) := fun i h1 h2 => by
  unfold cNd
  rw [if_pos (show 2 < max 0 (cnt (fun s => cTS σ s d) (σ 0 2).toNat - σ 25 2 + 1) by omega)]
  by_cases c : i = -1
  · rw [if_pos c]
  · rw [if_neg c, if_neg (by omega)]
theorem p2_mono {a b : Nat} (h : a < b) : (2 : Int) ^ a < 2 ^ b := by
  rw [← p2_cast a, ← p2_cast b]
  exact Int.ofNat_lt.mpr (Nat.pow_lt_pow_right (by decide) h)
theorem un0 {z c p : Int} (hv : z = if decide (p ≤ c) = true then 1 else 0) : (z = 1 ∧ p ≤ c) ∨ (z = 0 ∧ c < p) := by
  by_cases q : p ≤ c
  · rw [decide_eq_true q, if_pos rfl] at hv; omega
  · rw [decide_eq_false q, if_neg (by decide)] at hv; omega
theorem un1 {z c p : Int} {t : Bool} (hv : z = if c - (if t = true then 1 else 0) < p then 1 else 0) (hc : p ≤ c) : (z = 0 ∨ z = 1) ∧ (z ≠ 0 ↔ (t = true ∧ c = p)) := by
  cases t with
  | true =>
    rw [if_pos rfl] at hv
    by_cases q : c - 1 < p
    · rw [if_pos q] at hv; exact ⟨by omega, ⟨fun _ => ⟨rfl, by omega⟩, fun _ => by omega⟩⟩
    · rw [if_neg q] at hv; exact ⟨by omega, ⟨fun _ => by omega, fun w => by have := w.2; omega⟩⟩
  | false =>
    rw [if_neg (by decide : ¬ (false = true)), if_neg (by omega)] at hv
    exact ⟨by omega, ⟨fun _ => by omega, fun w => by cases w.1⟩⟩
theorem un2 {z c p : Int} {t u : Bool} (hv : z = if c - (if t = true then 1 else 0) - (if u = true then 1 else 0) < p then 1 else 0) (hc : p < c) : (z = 0 ∨ z = 1) ∧ (z ≠ 0 ↔ (c = p + 1 ∧ t = true ∧ u = true)) := by
  cases t with
  | true =>
    rw [if_pos rfl] at hv
    cases u with
    | true =>
      rw [if_pos rfl] at hv
      by_cases q : c - 1 - 1 < p
      · rw [if_pos q] at hv; exact ⟨by omega, ⟨fun _ => ⟨by omega, rfl, rfl⟩, fun _ => by omega⟩⟩
      · rw [if_neg q] at hv; exact ⟨by omega, ⟨fun _ => by omega, fun w => by have := w.1; omega⟩⟩
    | false =>
      rw [if_neg (by decide : ¬ (false = true)), if_neg (by omega)] at hv
      exact ⟨by omega, ⟨fun _ => by omega, fun w => by cases w.2.2⟩⟩
  | false =>
    rw [if_neg (by decide : ¬ (false = true))] at hv
    cases u with
    | true =>
      rw [if_pos rfl, if_neg (by omega)] at hv
      exact ⟨by omega, ⟨fun _ => by omega, fun w => by cases w.2.1⟩⟩
    | false =>
      rw [if_neg (by decide : ¬ (false = true)), if_neg (by omega)] at hv
      exact ⟨by omega, ⟨fun _ => by omega, fun w => by cases w.2.1⟩⟩
