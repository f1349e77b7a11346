/-! longs and bits -/
def orZ (a b : Int) : Int := ((a.toNat ||| b.toNat : Nat) : Int)
theorem j_bv (a : Int) : (Jl a).toBitVec.toNat = (a % 18446744073709551616).toNat := by
  show (BitVec.ofInt 64 a).toNat = _
  rw [BitVec.toNat_ofInt]; rfl
theorem j_ofbv {x : Int64} {n : Nat} (h : x.toBitVec.toNat = n) : x = Jl n := by
  apply Int64.toBitVec.inj
  apply BitVec.eq_of_toNat_eq
  rw [h, j_bv]
  have := x.toBitVec.isLt
  omega
theorem j_or {a b : Int} (ha : 0 ≤ a ∧ a < 9223372036854775808) (hb : 0 ≤ b ∧ b < 9223372036854775808) : Jl a ||| Jl b = Jl (orZ a b) := by
  refine j_ofbv ?_
  rw [Int64.toBitVec_or, BitVec.toNat_or, j_bv, j_bv]
  congr 1 <;> omega
theorem j_shl1 : ∀ k : Nat, k < 63 → Jl 1 <<< ((I k).toInt64 &&& 63) = Jl (2 ^ k) := by decide +kernel
theorem j_shl1z {k : Int} (hk : 0 ≤ k ∧ k < 63) : Jl 1 <<< ((I k).toInt64 &&& 63) = Jl (2 ^ k.toNat) := by
  obtain ⟨n, rfl⟩ := Int.eq_ofNat_of_zero_le hk.1
  exact j_shl1 n (by omega)
theorem j_sh63 : ∀ k : Nat, k < 64 → (((I k).toInt64 &&& 63).toBitVec.smod 64).toNat = k := by decide +kernel
theorem p2_pos (n : Nat) : (0 : Int) < 2 ^ n := Int.pow_pos (by decide)
theorem p2_lt : ∀ n : Nat, n < 63 → (2 : Int) ^ n < 9223372036854775808 := by decide +kernel
theorem p2_cast (n : Nat) : ((2 ^ n : Nat) : Int) = 2 ^ n := by simp
theorem j_shr {a k : Int} (ha : 0 ≤ a ∧ a < 9223372036854775808) (hk : 0 ≤ k ∧ k < 64) : Jl a >>> ((I k).toInt64 &&& 63) = Jl (a / 2 ^ k.toNat) := by
  obtain ⟨n, rfl⟩ := Int.eq_ofNat_of_zero_le hk.1
  obtain ⟨m, rfl⟩ := Int.eq_ofNat_of_zero_le ha.1
  have hs := j_sh63 n (by omega)
  have e : Jl (m : Int) >>> ((I (n : Int)).toInt64 &&& 63) = Jl ((m / 2 ^ n : Nat) : Int) := by
    refine j_ofbv ?_
    rw [Int64.toBitVec_shiftRight]
    have hm : (Jl (m : Int)).toBitVec.msb = false := by
      rw [BitVec.msb_eq_false_iff_two_mul_lt, j_bv]; omega
    unfold BitVec.sshiftRight'
    rw [hs, BitVec.sshiftRight_eq_of_msb_false hm, BitVec.toNat_ushiftRight, j_bv, Nat.shiftRight_eq_div_pow]
    congr 1
    omega
  rw [e]
  congr 1
theorem j_mask {a : Int} {m : Nat} (ha : 0 ≤ a ∧ a < 9223372036854775808) (hm : m < 63) : Jl a &&& Jl (2 ^ m - 1) = Jl (a % 2 ^ m) := by
  obtain ⟨n, rfl⟩ := Int.eq_ofNat_of_zero_le ha.1
  have h1 := p2_lt m hm
  have h0 := p2_pos m
  have e : Jl (n : Int) &&& Jl (2 ^ m - 1) = Jl ((n % 2 ^ m : Nat) : Int) := by
    refine j_ofbv ?_
    rw [Int64.toBitVec_and, BitVec.toNat_and, j_bv, j_bv]
    have e1 : ((n : Int) % 18446744073709551616).toNat = n := by omega
    have e2 : (((2 : Int) ^ m - 1) % 18446744073709551616).toNat = 2 ^ m - 1 := by
      have := p2_cast m
      omega
    rw [e1, e2, Nat.and_two_pow_sub_one_eq_mod]
  rw [e]
  congr 1
theorem R_lcmp {Θ : Th} {Γ : Gm} {Y : Mt} {pc : Nat} {L : List (Nat × Value)} {st : List Value} {σ : Mem} (hB : Base Θ Γ Y) {a b : Int} (ha : rngL a) (hb : rngL b) (hd : decode Y.2.1 pc = .ok (.lcmp, 1)) (k : Run Θ Γ (pc + 1) L (.int (I (if a < b then -1 else if a = b then 0 else 1)) :: st) σ) : Run Θ Γ pc L (.long (Jl b) :: .long (Jl a) :: st) σ := by
  intro hc H ls locs hL hP hS
  refine W.lcmp hB.1.1 hB.1.2.1 hd ?_
  have e1 : Jl a < Jl b ↔ a < b := by rw [Int64.lt_iff_toInt_lt, Jl_toInt ha, Jl_toInt hb]
  have e2 : Jl b < Jl a ↔ b < a := by rw [Int64.lt_iff_toInt_lt, Jl_toInt ha, Jl_toInt hb]
  have e3 : Jl a = Jl b ↔ a = b := by rw [← Int64.toInt_inj, Jl_toInt ha, Jl_toInt hb]
  have e : lg_cmp (Jl a) (Jl b) = I (if a < b then -1 else if a = b then 0 else 1) := by
    unfold lg_cmp
    by_cases h1 : a < b
    · have h2 : ¬ b < a := by omega
      have h3 : ¬ a = b := by omega
      simp [e1, e2, e3, h1, h2, h3]; rfl
    · by_cases h3 : a = b
      · subst h3
        simp; rfl
      · have h2 : b < a := by omega
        simp [e1, e2, e3, h1, h2, h3]; rfl
  rw [e]
  exact k hc H ls locs hL hP hS
theorem i_or {a b : Int} (ha : 0 ≤ a ∧ a < 2147483648) (hb : 0 ≤ b ∧ b < 2147483648) : I a ||| I b = I (orZ a b) := by
  refine i_ofbv ?_
  rw [Int32.toBitVec_or, BitVec.toNat_or, i_bv, i_bv]
  congr 1 <;> omega
theorem orZ_add {a : Int} {n : Nat} (ha : 0 ≤ a ∧ a < 2 ^ n) : orZ a (2 ^ n) = a + 2 ^ n := by
  obtain ⟨m, rfl⟩ := Int.eq_ofNat_of_zero_le ha.1
  have hm : m < 2 ^ n := by have := p2_cast n; omega
  have h := Nat.two_pow_add_eq_or_of_lt hm 1
  unfold orZ
  have e2 : ((2 : Int) ^ n).toNat = 2 ^ n := by have := p2_cast n; omega
  rw [e2, show ((m : Int).toNat) = m from rfl, Nat.or_comm, ← Nat.mul_one (2 ^ n), ← h]
  simp
  omega
