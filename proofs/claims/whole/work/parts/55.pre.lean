theorem fl_two {p q r : Int → Bool} (h1 : ∀ x, p x = true → r x = true) (h2 : ∀ x, q x = true → r x = true) (h3 : ∀ x, ¬ (p x = true ∧ q x = true)) (l : List Int) : (l.filter p).length + (l.filter q).length ≤ (l.filter r).length := by
  induction l with
  | nil => simp
  | cons a l ih =>
    have a1 := h1 a
    have a2 := h2 a
    have a3 := h3 a
    simp only [List.filter_cons]
    cases hp : p a <;> cases hq : q a <;> cases hr : r a <;> simp_all <;> omega
theorem evs_fl (hr : Int → Int) (n m : Nat) : (evs hr n m).length ≤ ((ordL (fun k => k) n).filter (fun d => decide (0 ≤ hr d ∧ hr d < (m : Int)))).length := by
  induction m with
  | zero => simp [evs]
  | succ m ih =>
    rw [evs, List.length_append]
    have := fl_two (p := fun d => decide (0 ≤ hr d ∧ hr d < (m : Int))) (q := fun d => decide (hr d = (m : Int))) (r := fun d => decide (0 ≤ hr d ∧ hr d < ((m + 1 : Nat) : Int))) (fun x h => by simp only [decide_eq_true_eq] at *; omega) (fun x h => by simp only [decide_eq_true_eq] at *; omega) (fun x h => by simp only [decide_eq_true_eq] at h; omega) (ordL (fun k => k) n)
    unfold evH
    omega
theorem mkW_in (σ : Mem) (s d : Nat) (hn : 0 ≤ σ 2 4 ∧ σ 2 4 ≤ 8) : 0 ≤ mkW σ s d ∧ mkW σ s d ≤ 8 := by
  have h := cnL_in (z := σ (8 + s)) (hr := fun i => σ 33 (phi d i)) (ho := fun i => σ 34 (phi d i)) (so := fun i => σ 35 (phi d i)) 3 (fun _ => true) (evs (fun i => σ 33 (phi d i)) ((σ 2 4).toNat - 1) 50) (σ (8 + s) 1)
  have hl : (evs (fun i => σ 33 (phi d i)) ((σ 2 4).toNat - 1) 50).length ≤ (σ 2 4).toNat - 1 := by
    have hlen : ∀ (hr : Int → Int) (n m : Nat), (evs hr n m).length ≤ n := by
      intro hr n m
      have h1 := evs_fl hr n m
      have h2 := List.length_filter_le (fun d => decide (0 ≤ hr d ∧ hr d < (m : Int))) (ordL (fun k => k) n)
      rw [ordL_len] at h2
      omega
    exact hlen _ _ _
  unfold mkW
  omega
theorem mAl_in (p : Nat → Bool) (g : Nat → Int) (n : Nat) : 0 ≤ mAl p g n ∧ mAl p g n ≤ n := by
  induction n with
  | zero => simp [mAl]
  | succ n ih =>
    have := cnt_in (fun d => p d && decide (g d = g n)) (n + 1)
    simp only [mAl]
    split <;> omega
def aMost (σ : Mem) (s : Nat) : Int := 8 - mAl (nvB σ) (mkW σ s) (σ 2 4).toNat
/-- the chance, above, in parts of 16 to the power of m -/
def abv (c pf : Int) (m : Nat) : Nat → Int
  | 0 => 0
  | k + 1 => abv c pf m k + wy c m (pf + (k : Int))
/-- a fraction, above by 2 to the power of e, in lowest terms a by b -/
def RedQ (top : Int) (e : Nat) (a b : Int) : Prop := ∃ j : Nat, j ≤ e ∧ a * 2 ^ j = top ∧ b = 2 ^ (e - j) ∧ (b = 1 ∨ a % 2 = 1)
theorem abv_in {c pf : Int} (hc : 0 ≤ c ∧ c ≤ 16) (m : Nat) (k : Nat) : 0 ≤ abv c pf m k ∧ abv c pf m k ≤ k * 16 ^ m := by
  induction k with
  | zero => simp [abv]
  | succ k ih =>
    have := wy_in hc m (pf + (k : Int))
    simp only [abv]
    have e : ((k + 1 : Nat) : Int) * 16 ^ m = k * 16 ^ m + 16 ^ m := by rw [Int.natCast_succ, Int.add_mul, Int.one_mul]
    omega
theorem p2_33 : ∀ n : Nat, n ≤ 32 → (2 : Int) ^ n ≤ 4294967296 := by decide
