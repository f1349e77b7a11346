section LSW
variable {Θ : Th} {Γ : Gm} {Y : Mt} {pc : Nat} {L : List (Nat × Value)} {st : List Value} {σ : Mem}
theorem R_lsIn (hB : Base Θ Γ Y) {dflt off a : Int} {ps : Array (Int × Int)} {len : Nat} (c : Int) (t : Nat) (ha : rng a) (h : a = c) (hd : decode Y.2.1 pc = .ok (.lookupswitch dflt ps, len)) (hp : (ps.toList.zip (ps.toList.drop 1)).all (fun (a, next) => a.1 < next.1) = true) (ho : Op.lookupswitch.offset ps.toList dflt c = off) (ht : (pc : Int) + off = t) (k : Run Θ Γ t L st σ) : Run Θ Γ pc L (.int (I a) :: st) σ := by
  intro hc H ls locs hL hP hS
  have e : (I a).toInt = c := (I_toInt ha).trans h
  exact lv_lookup hB.1.1 hB.1.2.1 hd hp (by rw [e]; exact ho) ht (k hc H ls locs hL hP hS)
theorem R_lsOut (hB : Base Θ Γ Y) {dflt a : Int} {ps : Array (Int × Int)} {len : Nat} (t : Nat) (ha : rng a) (hd : decode Y.2.1 pc = .ok (.lookupswitch dflt ps, len)) (hp : (ps.toList.zip (ps.toList.drop 1)).all (fun (a, next) => a.1 < next.1) = true) (ho : Op.lookupswitch.offset ps.toList dflt a = dflt) (ht : (pc : Int) + dflt = t) (k : Run Θ Γ t L st σ) : Run Θ Γ pc L (.int (I a) :: st) σ := by
  intro hc H ls locs hL hP hS
  have e : (I a).toInt = a := I_toInt ha
  exact lv_lookup hB.1.1 hB.1.2.1 hd hp (by rw [e]; exact ho) ht (k hc H ls locs hL hP hS)
end LSW
theorem bsum_tb (p : Nat → Bool) (n i : Nat) : (bsum p n).toNat.testBit i = (decide (i < n) && p i) := by
  have hb := bsum_in p n
  have h2 := p2_cast n
  rw [Nat.testBit_eq_decide_div_mod_eq]
  have e : (((bsum p n).toNat / 2 ^ i % 2 : Nat) : Int) = bsum p n / 2 ^ i % 2 := by
    rw [Int.natCast_emod, Int.natCast_ediv, p2_cast i, Int.toNat_of_nonneg hb.1]; rfl
  by_cases hi : i < n
  · have := bsum_bit p hi
    simp only [hi, decide_true, Bool.true_and]
    cases hp : p i with
    | true =>
      rw [hp] at this; simp at this
      simp; omega
    | false =>
      rw [hp] at this; simp at this
      simp; omega
  · have hle : (2 : Int) ^ n ≤ 2 ^ i := by
      rw [← p2_cast n, ← p2_cast i]
      exact Int.ofNat_le.mpr (Nat.pow_le_pow_right (by decide) (by omega))
    have hz : bsum p n / 2 ^ i = 0 := Int.ediv_eq_zero_of_lt hb.1 (by omega)
    rw [hz] at e
    simp only [hi, decide_false, Bool.false_and, decide_eq_false_iff_not]
    omega
theorem i_and_bsum (p q : Nat → Bool) {n : Nat} (hn : n ≤ 8) : I (bsum p n) &&& I (bsum q n) = I (bsum (fun k => p k && q k) n) := by
  have hp := bsum_in p n
  have hq := bsum_in q n
  have hr := bsum_in (fun k => p k && q k) n
  have h8 := p2_256 n hn
  rw [show I (bsum (fun k => p k && q k) n) = I ((bsum (fun k => p k && q k) n).toNat : Int) by rw [Int.toNat_of_nonneg hr.1]]
  refine i_ofbv ?_
  rw [Int32.toBitVec_and, BitVec.toNat_and, i_bv, i_bv]
  apply Nat.eq_of_testBit_eq
  intro i
  rw [Nat.testBit_and, show (bsum p n % 4294967296).toNat = (bsum p n).toNat by omega, show (bsum q n % 4294967296).toNat = (bsum q n).toNat by omega, bsum_tb, bsum_tb, bsum_tb]
  cases decide (i < n) <;> simp
theorem bsum_all (n : Nat) : bsum (fun _ => true) n = 2 ^ n - 1 := by
  induction n with
  | zero => rfl
  | succ n ih => simp only [bsum]; rw [ih, Int.pow_succ]; simp; omega
/-- the first place of the greatest of n numbers, none being below 0 -/
def amx (f : Nat → Int) : Nat → Int
  | 0 => -1
  | n + 1 => if amx f n = -1 ∨ f (amx f n).toNat < f n then n else amx f n
/-- and that number -/
def amv (f : Nat → Int) : Nat → Int
  | 0 => -1
  | n + 1 => if amv f n < f n then f n else amv f n
theorem amx_amv {f : Nat → Int} {n : Nat} (hf : ∀ k, k < n → 0 ≤ f k) : (n = 0 → amx f n = -1 ∧ amv f n = -1) ∧ (0 < n → 0 ≤ amx f n ∧ amx f n < n ∧ amv f n = f (amx f n).toNat) := by
  induction n with
  | zero => exact ⟨fun _ => ⟨rfl, rfl⟩, fun h => by omega⟩
  | succ n ih =>
    refine ⟨fun h => by omega, fun _ => ?_⟩
    obtain ⟨i1, i2⟩ := ih (fun k hk => hf k (by omega))
    have hn := hf n (by omega)
    simp only [amx, amv]
    by_cases h0 : n = 0
    · obtain ⟨a1, a2⟩ := i1 h0
      subst h0
      rw [a1, a2]
      simp
      omega
    · obtain ⟨a1, a2, a3⟩ := i2 (by omega)
      have hne : amx f n ≠ -1 := by omega
      rw [a3]
      by_cases hq : f (amx f n).toNat < f n
      · rw [if_pos (Or.inr hq), if_pos hq]
        refine ⟨by omega, by omega, ?_⟩
        simp
      · rw [if_neg (by omega), if_neg hq]
        exact ⟨a1, by omega, rfl⟩
/-- the i-th of the first m places that have p -/
def nthB (p : Nat → Bool) (i : Int) : Nat → Int
  | 0 => -1
  | m + 1 => if p m = true ∧ cnt p m = i then m else nthB p i m
theorem nthB_late {p : Nat → Bool} {i : Int} {h : Nat} (hp : p h = true) (hc : cnt p h = i) : ∀ m, nthB p i (h + 1 + m) = h := by
  intro m
  have mono : ∀ m, cnt p h + 1 ≤ cnt p (h + 1 + m) := by
    intro m
    induction m with
    | zero => simp only [Nat.add_zero, cnt, hp, if_true]; omega
    | succ m ih => rw [← Nat.add_assoc]; simp only [cnt]; split <;> omega
  induction m with
  | zero => simp [nthB, hp, hc]
  | succ m ih =>
    rw [← Nat.add_assoc]
    simp only [nthB]
    have := mono m
    rw [if_neg (fun q => by have := q.2; omega), ih]
theorem nthB_none {p : Nat → Bool} {i : Int} {m : Nat} (h : ∀ k, k < m → ¬ (p k = true ∧ cnt p k = i)) : nthB p i m = -1 := by
  induction m with
  | zero => rfl
  | succ m ih => simp only [nthB]; rw [if_neg (h m (by omega)), ih (fun k hk => h k (by omega))]
theorem j_and1 {a : Int} (ha : 0 ≤ a ∧ a < 9223372036854775808) : Jl a &&& Jl 1 = Jl (a % 2) := j_mask (m := 1) ha (by decide)
theorem bsum_lt50 (p : Nat → Bool) : 0 ≤ bsum p 50 ∧ bsum p 50 < 1125899906842624 := by
  have := bsum_in p 50
  have h := p2_lt50 50 (by omega)
  omega
/-- who may testify of the deed d, by the class's cells -/
def cTS (σ : Mem) (s : Nat) (d : Int) : Bool := tsL (σ (8 + s)) (σ 33) (σ 34) (σ 35) (evs (σ 33) (σ 2 4).toNat 50) (σ (8 + s) 1) (σ 25 0) (σ 25 1) d
def cFT (σ : Mem) (s : Nat) (d : Int) : Int := ftL (σ (8 + s)) (σ 33) (σ 34) (σ 35) d (evs (σ 33) (σ 2 4).toNat 50) (σ (8 + s) 1)
theorem wit_cnt {σ σ' : Mem} {T : Nat → Nat → Bool} {m N : Nat} (h : ∀ s : Nat, s < N → σ' 48 s = bsum (T s) m) {d : Nat} (hd : d < m) : cnt (fun s : Nat => decide (σ' 48 (s : Int) / 2 ^ d % 2 = 1)) N = cnt (fun s => T s d) N := by
  refine cnt_cg (fun s hs => ?_)
  rw [h s hs, bsum_bit _ hd]
  cases T s d <;> simp
theorem wit_bits {σ' : Mem} {T : Nat → Nat → Bool} {m N : Nat} (h : ∀ s : Nat, s < N → σ' 48 s = bsum (T s) m) {d : Nat} (hd : d < m) : bsum (fun s : Nat => decide (σ' 48 (s : Int) / 2 ^ d % 2 = 1)) N = bsum (fun s => T s d) N := by
  refine bsum_cg (fun s hs => ?_)
  rw [h s hs, bsum_bit _ hd]
  cases T s d <;> simp
theorem am_step {f : Nat → Int} {n : Nat} (hf : ∀ k, 0 ≤ f k) {be mo v : Int} (hb : be = amx f n) (hm : mo = amv f n) (hv : v = f n) : (mo < v → (n : Int) = amx f (n + 1) ∧ v = amv f (n + 1)) ∧ (v ≤ mo → be = amx f (n + 1) ∧ mo = amv f (n + 1)) := by
  have hA := amx_amv (f := f) (n := n) (fun k _ => hf k)
  have h0 := hf n
  subst hb hm hv
  simp only [amx, amv]
  by_cases hn : n = 0
  · obtain ⟨a1, a2⟩ := hA.1 hn
    refine ⟨fun h => ?_, fun h => ?_⟩
    · rw [if_pos (Or.inl a1), if_pos h]; exact ⟨rfl, rfl⟩
    · omega
  · obtain ⟨a1, a2, a3⟩ := hA.2 (by omega)
    refine ⟨fun h => ?_, fun h => ?_⟩
    · rw [if_pos (Or.inr (by omega)), if_pos h]; exact ⟨rfl, rfl⟩
    · rw [if_neg (by omega), if_neg (by omega)]; exact ⟨rfl, rfl⟩
/-- to how many deeds a sleeper testifies -/
def cMany (σ : Mem) (s : Nat) : Int := cnt (fun d : Nat => cTS σ s (d : Int)) (σ 2 4).toNat
theorem cMany_in (σ : Mem) (s : Nat) : 0 ≤ cMany σ s ∧ cMany σ s ≤ (σ 2 4).toNat := cnt_in _ _
