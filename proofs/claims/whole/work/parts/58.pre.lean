theorem j_shr1 {a : Int} (ha : 0 ≤ a ∧ a < 9223372036854775808) : Jl a >>> ((I 1).toInt64 &&& 63) = Jl (a / 2) := by
  have := j_shr (k := 1) ha (by omega)
  rw [this]; rfl
theorem half_pow {e j : Nat} (h : j < e) : (2 : Int) ^ (e - j) / 2 = 2 ^ (e - (j + 1)) := by
  rw [show e - j = e - (j + 1) + 1 by omega, Int.pow_succ, Int.mul_ediv_cancel _ (by decide)]
theorem pow_one {e j : Nat} (h : (2 : Int) ^ (e - j) ≤ 1) : e - j = 0 := by
  cases q : e - j with
  | zero => rfl
  | succ n =>
    rw [q, Int.pow_succ] at h
    have := p2_pos n
    omega
/-- of a deed: how many may testify; the chance above -/
def fgM (σ : Mem) (d : Int) : Nat := (cnt (fun s => cTS σ s d) (σ 0 2).toNat).toNat
def fgT (σ : Mem) (c d : Int) : Int := abv c (σ 25 2) (fgM σ d) ((fgM σ d : Int) + 1 - σ 25 2).toNat
