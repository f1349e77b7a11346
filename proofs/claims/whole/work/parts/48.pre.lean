theorem InvC.fnd {σ : Mem} (h : InvC σ) {n : Int} (hn : 0 ≤ n ∧ n ≤ 5) : InvC (up σ 0 7 n) := by
  refine h.sh (fun i hi => ?_) (up_n (by decide)) (by rw [up_s]; exact hn) (fun s hs => ?_)
  · simp only [List.mem_cons, List.not_mem_nil, or_false, not_or] at hi
    exact up_row hi.1
  · rw [up_row (by omega)]; exact h.2.2.2.2.2.1 s hs
/-- the number of the finding about item i of a sheet z, treated as of form f -/
def fnd (z : Int → Int) (f i : Int) : Int := if z 1 = 1 then 1 else if z 2 ≠ f then 3 else if 0 ≤ i ∧ i < z 3 then 0 else 2
theorem fnd_in (z : Int → Int) (f i : Int) : 0 ≤ fnd z f i ∧ fnd z f i ≤ 5 := by
  unfold fnd
  repeat (first | omega | split)
def hldP (z : Int → Int) (i n : Int) : Prop := 0 ≤ i ∧ 0 ≤ n ∧ i + n ≤ z 3
def cpM (σ : Mem) (a : Nat) (sp : Int) (b : Nat) (dp n : Int) : Mem := fun i k => if i = b ∧ dp ≤ k ∧ k < dp + n then σ a (sp + (k - dp)) else σ i k
theorem cpM_row {σ : Mem} {a b : Nat} {sp dp n : Int} {i : Nat} (h : i ≠ b) : cpM σ a sp b dp n i = σ i := by
  funext k
  unfold cpM
  rw [if_neg (fun q => h q.1)]
theorem cells_row {Θ : Th} {σ σ' : Mem} {i t n : Nat} (ha : arrOf i = (t, n)) (h9 : t < 9) (hs : ∀ j, j ≠ i → σ' j = σ j) : (cells Θ σ).set i (Th.r Θ i, .inl (Th.ca Θ t, n, av Θ σ' i)) = cells Θ σ' := by
  have hi := arrOf_ge ha h9
  apply List.ext_getElem?
  intro j
  rw [List.getElem?_set]
  by_cases hj : i = j
  · subst hj
    rw [if_pos rfl, if_pos (by simp [cells]; omega), cells_get Θ _ (by omega), cellE_a ha h9]
  · rw [if_neg hj]
    rcases Nat.lt_or_ge j 78 with h1 | h1
    · rw [cells_get Θ _ h1, cells_get Θ _ h1]
      congr 2
      have e2 : σ' j = σ j := hs j (fun q => hj q.symm)
      have e1 : ∀ n, fv Θ σ' j n = fv Θ σ j n := fun n => by simp only [fv, e2]
      simp only [cellE, av, e2]
      rw [show fv Θ σ' j = fv Θ σ j from funext e1]
    · rw [List.getElem?_eq_none (by simpa [cells] using h1), List.getElem?_eq_none (by simpa [cells] using h1)]
theorem N_acopy {Θ : Th} {Γ : Gm} {Y : Mt} {pc : Nat} {L : List (Nat × Value)} {rest : List Value} {σ : Mem} (hB : Base Θ Γ Y) {x a b na nb : Nat} {sp dp n : Int} (ha : arrOf a = (0, na)) (hb : arrOf b = (0, nb)) (hi26 : b ≠ 26 ∧ b ≠ 28 ∧ b ≠ 5 ∧ a ≠ 26 ∧ a ≠ 28 ∧ a ≠ 5) (h1 : 0 ≤ sp ∧ 0 ≤ dp ∧ 0 ≤ n) (h2 : sp + n ≤ na) (h3 : dp + n ≤ nb) (hl : Cond.methodLink Y.1.cls x arraycopyName ∈ TT) (hna : Cond.native arraycopyName ∈ TT) (hst : Cond.static arraycopyName ∈ TT) (hin : Cond.initialized "java/lang/System" ∈ TT) (hR : 1 ≤ Y.2.2.2.2.1 ∧ 60 ≤ Y.2.2.2.2.2) (hd : decode Y.2.1 pc = .ok (.invokestatic x, 3)) (hw : (rest.map fun v => v.category).sum ≤ 8) (kk : ∀ σ', σ' = cpM σ a sp b dp n → Run Θ Γ (pc + 3) L rest σ') : Run Θ Γ pc L (.int (I n) :: .int (I dp) :: .ref (Th.r Θ b) :: .int (I sp) :: .ref (Th.r Θ a) :: rest) σ := by
  intro hcn H ls locs hL hP hS
  have ga := arrOf_ge ha (by decide)
  have gb := arrOf_ge hb (by decide)
  have la := arr_n ha
  have lb := arr_n hb
  have hfr := hB.2.2.1
  have hlo := hB.2.2.2.1
  have ht := hB.1.2.2.2.2
  have esp : (((I sp).toNatClampNeg : Nat) : Int) = sp := I_cl (by omega)
  have edp : (((I dp).toNatClampNeg : Nat) : Int) = dp := I_cl (by omega)
  have en : (((I n).toNatClampNeg : Nat) : Int) = n := I_cl (by omega)
  have nn : ∀ {z : Int}, 0 ≤ z → z < 2147483648 → ¬ I z < 0 := fun q1 q2 h => by have := (I_lt (b := 0) (by omega) (by decide)).mp h; omega
  refine va_copyi hB.1.1 hB.1.2.1 hL.1.symm hB.1.2.2.2.1 (ht _ hl) (ht _ hna) (ht _ hst) (ht _ hin) hB.2.1.1 hP (cells_D hB.2.1 σ) hS a b 0 0 (by rw [cells_get Θ σ ga.2, cellE_a ha (by decide), av_i ha]) (by rw [cells_get Θ σ gb.2, cellE_a hb (by decide), av_i hb]) rfl rfl rfl (nn h1.1 (by omega)) (nn h1.2.1 (by omega)) (nn h1.2.2 (by omega)) (by omega) (by omega) (fun i hi => rfl) (by omega) ?_ hd ?_
  · have : nativeFrameWords "java/lang/System" "arraycopy" 5 ≤ 40 := by decide +kernel
    omega
  · intro H1 locs1 hP1 _ hS1
    have e : va_cpy (fun j : Nat => I (σ a j)) (fun j : Nat => I (σ b j)) (I sp).toNatClampNeg (I dp).toNatClampNeg (I n).toNatClampNeg = fun j : Nat => I (cpM σ a sp b dp n b j) := by
      funext j
      unfold va_cpy cpM
      by_cases c : (I dp).toNatClampNeg ≤ j ∧ j < (I dp).toNatClampNeg + (I n).toNatClampNeg
      · rw [if_pos c, if_pos ⟨rfl, by omega, by omega⟩]
        refine congrArg I (congrArg (σ a) ?_)
        omega
      · rw [if_neg c, if_neg (fun q => c (by omega))]
    rw [e, ← av_i (Θ := Θ) (σ := cpM σ a sp b dp n) hb, cells_row hb (by decide) (fun j hj => cpM_row hj)] at hP1
    refine kk _ rfl (fun i k => ?_) H1 ls locs1 hL hP1 hS1
    unfold cpM
    split
    · rename_i q
      have q1 := q.1
      subst q1
      have := hcn a (sp + (k - dp))
      exact ⟨this.1, fun _ _ _ => this.2 hi26.2.2.2.1 hi26.2.2.2.2.1 (fun w => hi26.2.2.2.2.2 w.1)⟩
    · exact hcn i k
def lcg (x : Int) : Int := 1103515245 * x + 12345
def seedA (x : Int) : Nat → Int
  | 0 => x
  | d + 1 => lcg (lcg (lcg (seedA x d)))
def lotZ (x n : Int) : Int := x % 4294967296 / 65536 % n
def crH (x : Int) (d : Int) : Int := lotZ (lcg (seedA x d.toNat)) 50
def crO (x : Int) (d : Int) : Int := lotZ (lcg (lcg (seedA x d.toNat))) 10
def crS (x : Int) (d : Int) : Int := lotZ (lcg (lcg (lcg (seedA x d.toNat)))) 4
/-- in how many ways just k of n don't feign -/
def wy (c : Int) : Nat → Int → Int
  | 0, k => if k = 0 then 1 else 0
  | n + 1, k => wy c n k * c + wy c n (k - 1) * (16 - c)
theorem wy_neg (c : Int) (n : Nat) {k : Int} (h : k < 0) : wy c n k = 0 := by
  induction n generalizing k with
  | zero => simp [wy]; omega
  | succ n ih => simp only [wy]; rw [ih h, ih (by omega)]; simp
theorem wy_big (c : Int) (n : Nat) {k : Int} (h : (n : Int) < k) : wy c n k = 0 := by
  induction n generalizing k with
  | zero => simp [wy]; omega
  | succ n ih => simp only [wy]; rw [ih (by omega), ih (by omega)]; simp
theorem p16_pos (n : Nat) : (0 : Int) < 16 ^ n := Int.pow_pos (by decide)
theorem wy_in {c : Int} (hc : 0 ≤ c ∧ c ≤ 16) (n : Nat) (k : Int) : 0 ≤ wy c n k ∧ wy c n k ≤ 16 ^ n := by
  induction n generalizing k with
  | zero => simp only [wy]; split <;> simp
  | succ n ih =>
    have h1 := ih k
    have h2 := ih (k - 1)
    have hp := p16_pos n
    simp only [wy]
    have a1 : 0 ≤ wy c n k * c := Int.mul_nonneg h1.1 hc.1
    have a2 : 0 ≤ wy c n (k - 1) * (16 - c) := Int.mul_nonneg h2.1 (by omega)
    have a3 : wy c n k * c ≤ 16 ^ n * c := Int.mul_le_mul_of_nonneg_right h1.2 hc.1
    have a4 : wy c n (k - 1) * (16 - c) ≤ 16 ^ n * (16 - c) := Int.mul_le_mul_of_nonneg_right h2.2 (by omega)
    have a5 : (16 : Int) ^ (n + 1) = 16 ^ n * c + 16 ^ n * (16 - c) := by rw [Int.pow_succ, ← Int.mul_add]; congr 1; omega
    omega
theorem p16_le : ∀ n : Nat, n ≤ 8 → (16 : Int) ^ n ≤ 4294967296 := by decide
