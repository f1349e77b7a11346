/-! the same rules with the new memory named; calls that leave the memory -/
def Pu (σ : Mem) (P : Int → Prop) : Int → Mem → Prop := fun z σ' => σ' = σ ∧ P z
section NAMED
variable {Θ : Th} {Γ : Gm} {Y Y' : Mt} {pc : Nat} {L L' : List (Nat × Value)} {st rest : List Value} {σ : Mem} {P : Int → Prop}
theorem N_puti (hB : Base Θ Γ Y) {x ci k i : Nat} {z v : Int} (hf : FP Y.1.cls x ci k z 0 .int) (hd : decode Y.2.1 pc = .ok (.putfield x, 3)) (hc : clsOf i = ci) (hv : rng v) (kk : ∀ σ', σ' = up σ i z v → Run Θ Γ (pc + 3) L st σ') : Run Θ Γ pc L (.int (I v) :: .ref (Th.r Θ i) :: st) σ := R_puti hB hf hd hc hv (kk _ rfl)
theorem N_putz (hB : Base Θ Γ Y) {x ci k i : Nat} {z v : Int} (hf : FP Y.1.cls x ci k z 3 .boolean) (hd : decode Y.2.1 pc = .ok (.putfield x, 3)) (hc : clsOf i = ci) (hv : v = 0 ∨ v = 1) (kk : ∀ σ', σ' = up σ i z v → Run Θ Γ (pc + 3) L st σ') : Run Θ Γ pc L (.int (I v) :: .ref (Th.r Θ i) :: st) σ := R_putz hB hf hd hc hv (kk _ rfl)
theorem N_putl (hB : Base Θ Γ Y) {x : Nat} {v : Int} (hf : FP Y.1.cls x 2 8 8 1 .long) (hd : decode Y.2.1 pc = .ok (.putfield x, 3)) (hv : rngL v) (kk : ∀ σ', σ' = up σ 5 8 v → Run Θ Γ (pc + 3) L st σ') : Run Θ Γ pc L (.long (Jl v) :: .ref (Th.r Θ 5) :: st) σ := R_putl hB hf hd hv (kk _ rfl)
theorem N_iast (hB : Base Θ Γ Y) {i n : Nat} {x v : Int} (ha : arrOf i = (0, n)) (hx : 0 ≤ x ∧ x < n) (hv : rng v) (hd : decode Y.2.1 pc = .ok (.iastore, 1)) (kk : ∀ σ', σ' = up σ i x v → Run Θ Γ (pc + 1) L st σ') : Run Θ Γ pc L (.int (I v) :: .int (I x) :: .ref (Th.r Θ i) :: st) σ := R_iast hB ha hx hv hd (kk _ rfl)
theorem N_zast (hB : Base Θ Γ Y) {i n : Nat} {x v : Int} (ha : arrOf i = (2, n)) (hx : 0 ≤ x ∧ x < n) (hv : v = 0 ∨ v = 1) (hd : decode Y.2.1 pc = .ok (.bastore, 1)) (kk : ∀ σ', σ' = up σ i x v → Run Θ Γ (pc + 1) L st σ') : Run Θ Γ pc L (.int (I v) :: .int (I x) :: .ref (Th.r Θ i) :: st) σ := R_zast hB ha hx hv hd (kk _ rfl)
theorem N_last (hB : Base Θ Γ Y) {i n : Nat} {x v : Int} (ha : arrOf i = (1, n)) (hi2 : i = 26 ∨ i = 28) (hx : 0 ≤ x ∧ x < n) (hv : rngL v) (hd : decode Y.2.1 pc = .ok (.lastore, 1)) (kk : ∀ σ', σ' = up σ i x v → Run Θ Γ (pc + 1) L st σ') : Run Θ Γ pc L (.long (Jl v) :: .int (I x) :: .ref (Th.r Θ i) :: st) σ := R_last hB ha hi2 hx hv hd (kk _ rfl)
theorem P_cS1 (hB : Base Θ Γ Y) {x n : Nat} {av : List Value} (hS : Spc Θ Y' 1 av σ (Pu σ P)) (hm : MS Y.1.cls x Y' n) (hR : CallRm Y Y') (hd : decode Y.2.1 pc = .ok (.invokestatic x, 3)) (hn : av.length = n) (hst : st = av.reverse ++ rest) (hw : (rest.map fun v => v.category).sum ≤ 8) (kk : ∀ z, P z → Run Θ Γ (pc + 3) L (.int (I z) :: rest) σ) : Run Θ Γ pc L st σ :=
  R_cS1 hB hS hm hR hd hn hst hw (fun z σ' h => by obtain ⟨h1, h2⟩ := h; subst h1; exact kk z h2)
theorem P_cS2 (hB : Base Θ Γ Y) {x n : Nat} {av : List Value} (hS : Spc Θ Y' 2 av σ (Pu σ P)) (hm : MS Y.1.cls x Y' n) (hR : CallRm Y Y') (hd : decode Y.2.1 pc = .ok (.invokestatic x, 3)) (hn : av.length = n) (hst : st = av.reverse ++ rest) (hw : (rest.map fun v => v.category).sum ≤ 8) (kk : ∀ z, P z → Run Θ Γ (pc + 3) L (.long (Jl z) :: rest) σ) : Run Θ Γ pc L st σ :=
  R_cS2 hB hS hm hR hd hn hst hw (fun z σ' h => by obtain ⟨h1, h2⟩ := h; subst h1; exact kk z h2)
theorem P_cV1 (hB : Base Θ Γ Y) {x n i ci : Nat} {av : List Value} (hS : Spc Θ Y' 1 (.ref (Th.r Θ i) :: av) σ (Pu σ P)) (hm : MV Y.1.cls x Y' n) (hc : clsOf i = ci) (hcl : (classes[ci]?).map (fun q => q.1) = some Y'.1.cls) (hR : CallRm Y Y') (hd : decode Y.2.1 pc = .ok (.invokevirtual x, 3)) (hn : av.length = n) (hst : st = av.reverse ++ .ref (Th.r Θ i) :: rest) (hw : (rest.map fun v => v.category).sum ≤ 8) (kk : ∀ z, P z → Run Θ Γ (pc + 3) L (.int (I z) :: rest) σ) : Run Θ Γ pc L st σ :=
  R_cV1 hB hS hm hc hcl hR hd hn hst hw (fun z σ' h => by obtain ⟨h1, h2⟩ := h; subst h1; exact kk z h2)
theorem P_cV2 (hB : Base Θ Γ Y) {x n i ci : Nat} {av : List Value} (hS : Spc Θ Y' 2 (.ref (Th.r Θ i) :: av) σ (Pu σ P)) (hm : MV Y.1.cls x Y' n) (hc : clsOf i = ci) (hcl : (classes[ci]?).map (fun q => q.1) = some Y'.1.cls) (hR : CallRm Y Y') (hd : decode Y.2.1 pc = .ok (.invokevirtual x, 3)) (hn : av.length = n) (hst : st = av.reverse ++ .ref (Th.r Θ i) :: rest) (hw : (rest.map fun v => v.category).sum ≤ 8) (kk : ∀ z, P z → Run Θ Γ (pc + 3) L (.long (Jl z) :: rest) σ) : Run Θ Γ pc L st σ :=
  R_cV2 hB hS hm hc hcl hR hd hn hst hw (fun z σ' h => by obtain ⟨h1, h2⟩ := h; subst h1; exact kk z h2)
end NAMED
/-! bits and remainders of Ints -/
theorem i_rem {a b : Int} (ha : 0 ≤ a ∧ a < 2147483648) (hb : 0 < b ∧ b < 2147483648) : I a - I a / I b * I b = I (a % b) := by
  obtain ⟨n, rfl⟩ := Int.eq_ofNat_of_zero_le ha.1
  obtain ⟨m, rfl⟩ := Int.eq_ofNat_of_zero_le (Int.le_of_lt hb.1)
  exact pk_rem (a := n) (d := m) (by omega) (by omega) (by omega)
theorem i_div {a b : Int} (ha : 0 ≤ a ∧ a < 2147483648) (hb : 0 < b ∧ b < 2147483648) : I a / I b = I (a / b) := by
  obtain ⟨n, rfl⟩ := Int.eq_ofNat_of_zero_le ha.1
  obtain ⟨m, rfl⟩ := Int.eq_ofNat_of_zero_le (Int.le_of_lt hb.1)
  exact pk_div (a := n) (d := m) (by omega) (by omega) (by omega)
theorem i_ne0 {b : Int} (hb : rng b) (h : b ≠ 0) : ¬ I b = 0 := fun q => h ((I_inj hb (by decide)).mp q)
theorem i_sh31 : ∀ k : Nat, k < 32 → ((I k &&& 31).toBitVec.smod 32).toNat = k := by decide +kernel
/-- a shift to the right by k -/
theorem i_shr {a k : Int} (ha : rng a) (hk : 0 ≤ k ∧ k < 32) : I a >>> (I k &&& 31) = I (a / 2 ^ k.toNat) := by
  obtain ⟨n, rfl⟩ := Int.eq_ofNat_of_zero_le hk.1
  have h1 := pk_shr (I a) (I n &&& 31) n (i_sh31 n (by omega))
  rw [I_toInt ha, Int.shiftRight_eq_div_pow] at h1
  apply Int32.toInt_inj.mp
  have h2 : (0:Int) < 2 ^ n := Int.pow_pos (by decide)
  have h4 : (1:Int) ≤ 2 ^ n := h2
  have h3 : rng (a / 2 ^ n) := by
    constructor
    · have : -2147483648 ≤ a / 2 ^ n := by
        apply (Int.le_ediv_iff_mul_le h2).mpr
        have : (-2147483648 : Int) * 2 ^ n ≤ -2147483648 * 1 := Int.mul_le_mul_of_nonpos_left (by decide) h4
        omega
      exact this
    · apply (Int.ediv_lt_iff_lt_mul h2).mpr
      have : (2147483648 : Int) * 1 ≤ 2147483648 * 2 ^ n := Int.mul_le_mul_of_nonneg_left h4 (by decide)
      omega
  rw [h1, show ((n : Int).toNat) = n from rfl, I_toInt h3]
  simp
theorem i_and1 {a : Int} : I a &&& I 1 = I (a % 2) := by
  have h := pk_and (I a) (m := I 1) 1 (by decide)
  rw [h]
  have e : (I a).toBitVec.toNat = (a % 4294967296).toNat := by
    show (BitVec.ofInt 32 a).toNat = _
    rw [BitVec.toNat_ofInt]; rfl
  have : (((I a).toBitVec.toNat % 2 ^ 1 : Nat) : Int) = a % 2 := by rw [e]; omega
  show Int32.ofNat _ = _
  rw [← this]; rfl
theorem i_shl1 : ∀ k : Nat, k < 31 → I 1 <<< (I k &&& 31) = I (2 ^ k) := by decide +kernel
