/-! who feigns by chance: both sides' sums -/
theorem j_div {a b : Int} (ha : 0 ≤ a ∧ a < 9223372036854775808) (hb : 0 < b ∧ b < 9223372036854775808) : Jl a / Jl b = Jl (a / b) := by
  have h1 : (Int64.minValue).toInt = -9223372036854775808 := by decide
  have h2 : (Int64.maxValue).toInt = 9223372036854775807 := by decide
  have := Int64.ofInt_tdiv (a := a) (b := b) (by omega) (by omega) (by omega) (by omega)
  rw [Int.tdiv_eq_ediv_of_nonneg ha.1] at this
  exact this.symm
theorem j_rem {a b : Int} (ha : 0 ≤ a ∧ a < 9223372036854775808) (hb : 0 < b ∧ b < 9223372036854775808) : Jl a - Jl a / Jl b * Jl b = Jl (a % b) := by
  rw [j_div ha hb, Jl_mul, Jl_sub, Int.emod_def, Int.mul_comm]
theorem j_ne0 {b : Int} (hb : rngL b) (h : b ≠ 0) : ¬ Jl b = 0 := fun q => by
  have := congrArg Int64.toInt q
  rw [Jl_toInt hb] at this
  exact h this
def tA (c : Int) : Nat → Int → Int
  | 0, p => if p ≤ 0 then 1 else 0
  | m + 1, p => c * tA c m p + (16 - c) * tA c m (p - 1)
theorem abv_s (c p : Int) (m K : Nat) : abv c p (m + 1) K = c * abv c p m K + (16 - c) * abv c (p - 1) m K := by
  induction K with
  | zero => simp [abv]
  | succ K ih =>
    simp only [abv, wy]
    rw [ih, show p - 1 + (K : Int) = p + K - 1 by omega, Int.mul_add, Int.mul_add, Int.mul_comm (wy c m (p + K)) c, Int.mul_comm (wy c m (p + K - 1)) (16 - c)]
    omega
theorem abv_tA (c : Int) (m : Nat) : ∀ (p : Int) (K : Nat), (m : Int) + 1 - p ≤ K → abv c p m K = tA c m p := by
  induction m with
  | zero =>
    intro p K hK
    have key : ∀ K : Nat, abv c p 0 K = if p ≤ 0 ∧ -p < K then 1 else 0 := by
      intro K
      induction K with
      | zero => simp only [abv]; rw [if_neg (by omega)]
      | succ K ih =>
        simp only [abv, wy]
        rw [ih]
        by_cases c1 : p + (K : Int) = 0
        · rw [if_pos c1, if_neg (by omega), if_pos (by omega)]; rfl
        · rw [if_neg c1]
          by_cases c2 : p ≤ 0 ∧ -p < K
          · rw [if_pos c2, if_pos (by omega)]; rfl
          · rw [if_neg c2, if_neg (by omega)]; rfl
    simp only [tA]
    rw [key K]
    by_cases q : p ≤ 0
    · rw [if_pos q, if_pos ⟨q, by omega⟩]
    · rw [if_neg q, if_neg (by omega)]
  | succ m ih =>
    intro p K hK
    rw [abv_s, ih p K (by omega), ih (p - 1) K (by omega)]
    rfl
def wt (c : Int) (set : Nat) : Nat → Int
  | 0 => 1
  | k + 1 => wt c set k * (if set.testBit k = true then c else 16 - c)
theorem wt_s (c : Int) (set k : Nat) : wt c set (k + 1) = wt c set k * (if set.testBit k = true then c else 16 - c) := rfl
theorem wt_in {c : Int} (hc : 0 ≤ c ∧ c ≤ 16) (set n : Nat) : 0 ≤ wt c set n ∧ wt c set n ≤ 16 ^ n := by
  induction n with
  | zero => simp [wt]
  | succ n ih =>
    rw [wt_s, Int.pow_succ]
    have hp := p16_pos n
    have hq : 0 ≤ (if set.testBit n = true then c else 16 - c) ∧ (if set.testBit n = true then c else 16 - c) ≤ 16 := by split <;> omega
    exact ⟨Int.mul_nonneg ih.1 hq.1, Int.mul_le_mul ih.2 hq.2 hq.1 (Int.le_of_lt hp)⟩
theorem wt_cg {c : Int} {s s' n : Nat} (h : ∀ k, k < n → s'.testBit k = s.testBit k) : wt c s' n = wt c s n := by
  induction n with
  | zero => rfl
  | succ n ih => rw [wt_s, wt_s, ih (fun k hk => h k (by omega)), h n (by omega)]
def fP (T : Nat → Bool) (set k : Nat) : Bool := T k && !set.testBit k
def gV (c : Int) (T : Nat → Bool) (n : Nat) (p : Int) (set : Nat) : Int := if p ≤ cnt (fP T set) n then wt c set n else 0
theorem sumN_add (f : Nat → Int) (a b : Nat) : sumN f (a + b) = sumN f a + sumN (fun k => f (a + k)) b := by
  induction b with
  | zero => simp [sumN]
  | succ b ih => rw [← Nat.add_assoc]; simp only [sumN]; rw [ih]; omega
theorem sumN_mul (f : Nat → Int) (c : Int) (n : Nat) : sumN (fun k => f k * c) n = c * sumN f n := by
  induction n with
  | zero => simp [sumN]
  | succ n ih => simp only [sumN]; rw [ih, Int.mul_add, Int.mul_comm (f n)]
def gG (c : Int) (T : Nat → Bool) (n : Nat) (p : Int) : Int := sumN (gV c T n p) (2 ^ n)
theorem gG_s (c : Int) (T : Nat → Bool) (n : Nat) (p : Int) {t : Int} (ht : t = if T n = true then 1 else 0) : gG c T (n + 1) p = (16 - c) * gG c T n (p - t) + c * gG c T n p := by
  unfold gG
  rw [Nat.pow_succ, Nat.mul_two, sumN_add]
  have a : sumN (gV c T (n + 1) p) (2 ^ n) = sumN (fun s => gV c T n (p - t) s * (16 - c)) (2 ^ n) := by
    refine sumN_cg (fun s hs => ?_)
    have hb : s.testBit n = false := Nat.testBit_lt_two_pow hs
    have e1 : cnt (fP T s) (n + 1) = cnt (fP T s) n + t := by
      have hf : fP T s n = T n := by unfold fP; rw [hb]; cases T n <;> rfl
      rw [ht]
      cases q : T n with
      | true => rw [cnt_t (by rw [hf, q])]; rfl
      | false => rw [cnt_f (by rw [hf, q])]; simp
    have e2 : wt c s (n + 1) = wt c s n * (16 - c) := by rw [wt_s, hb, if_neg (by decide)]
    unfold gV
    rw [e1, e2]
    by_cases q : p ≤ cnt (fP T s) n + t
    · rw [if_pos q, if_pos (by omega)]
    · rw [if_neg q, if_neg (by omega), Int.zero_mul]
  have b : sumN (fun k => gV c T (n + 1) p (2 ^ n + k)) (2 ^ n) = sumN (fun s => gV c T n p s * c) (2 ^ n) := by
    refine sumN_cg (fun s hs => ?_)
    have hb : (2 ^ n + s).testBit n = true := by rw [Nat.testBit_two_pow_add_eq, Nat.testBit_lt_two_pow hs]; rfl
    have hk : ∀ k, k < n → (2 ^ n + s).testBit k = s.testBit k := fun k hk => Nat.testBit_two_pow_add_gt hk s
    have e1 : cnt (fP T (2 ^ n + s)) (n + 1) = cnt (fP T s) n := by
      rw [cnt_f (by unfold fP; rw [hb]; cases T n <;> rfl)]
      exact cnt_cg (fun k q => by unfold fP; rw [hk k q])
    have e2 : wt c (2 ^ n + s) (n + 1) = wt c s n * c := by rw [wt_s, hb, wt_cg hk, if_pos rfl]
    show gV c T (n + 1) p (2 ^ n + s) = gV c T n p s * c
    unfold gV
    rw [e1, e2]
    by_cases q : p ≤ cnt (fP T s) n
    · rw [if_pos q, if_pos q]
    · rw [if_neg q, if_neg q, Int.zero_mul]
  rw [a, b, sumN_mul, sumN_mul]
theorem gG_tA (c : Int) (T : Nat → Bool) (n : Nat) : ∀ p : Int, gG c T n p = 16 ^ (n - (cnt T n).toNat) * tA c (cnt T n).toNat p := by
  induction n with
  | zero =>
    intro p
    show sumN (gV c T 0 p) 1 = _
    simp only [sumN, gV, cnt, wt]
    show 0 + (if p ≤ 0 then 1 else 0) = (16 : Int) ^ (0 - 0) * (if p ≤ 0 then 1 else 0)
    split <;> rfl
  | succ n ih =>
    intro p
    have hb := cnt_in T n
    rw [gG_s c T n p rfl, ih, ih]
    cases q : T n with
    | true =>
      rw [cnt_t q, if_pos rfl, show (cnt T n + 1).toNat = (cnt T n).toNat + 1 by omega, show n + 1 - ((cnt T n).toNat + 1) = n - (cnt T n).toNat by omega]
      simp only [tA]
      rw [Int.mul_add, Int.mul_left_comm, Int.mul_left_comm c]
      omega
    | false =>
      rw [cnt_f q, if_neg (by decide), Int.sub_zero, ← Int.add_mul, show (16 - c + c : Int) = 16 by omega, show n + 1 - (cnt T n).toNat = n - (cnt T n).toNat + 1 by omega, Int.pow_succ, ← Int.mul_assoc, Int.mul_comm 16]
theorem RedQ_ex (e : Nat) : ∀ top : Int, ∃ a b, RedQ top e a b := by
  induction e with
  | zero => exact fun top => ⟨top, 1, 0, Nat.le_refl _, by simp, rfl, Or.inl rfl⟩
  | succ e ih =>
    intro top
    by_cases q : top % 2 = 1
    · exact ⟨top, 2 ^ (e + 1), 0, by omega, by simp, rfl, Or.inr q⟩
    · obtain ⟨a, b, j, h1, h2, h3, h4⟩ := ih (top / 2)
      exact ⟨a, b, j + 1, by omega, by rw [Int.pow_succ, ← Int.mul_assoc, h2]; omega, by rw [h3]; congr 1; omega, h4⟩
theorem low_red {top a b : Int} {M S : Nat} (h : RedQ top (4 * M) a b) (h0 : 0 ≤ top) (hM : M ≤ S) : (16 ^ (S - M) * top) / ((Nat.gcd (16 ^ (S - M) * top).toNat ((2 : Int) ^ (4 * S)).toNat : Nat) : Int) = a ∧ (2 : Int) ^ (4 * S) / ((Nat.gcd (16 ^ (S - M) * top).toNat ((2 : Int) ^ (4 * S)).toNat : Nat) : Int) = b := by
  obtain ⟨j, h1, h2, h3, h4⟩ := h
  have hp := p2_pos j
  have ha : 0 ≤ a := by
    rcases Int.lt_or_le a 0 with q | q
    · exfalso
      have := Int.mul_neg_of_neg_of_pos q hp
      omega
    · exact q
  obtain ⟨n, rfl⟩ := Int.eq_ofNat_of_zero_le ha
  have hX : (16 : Int) ^ (S - M) * top = ((n * 2 ^ (j + 4 * (S - M)) : Nat) : Int) := by
    rw [← h2, Nat.pow_add, Int.natCast_mul, Int.natCast_mul, Int.natCast_pow, Int.natCast_pow]
    have e : ((2 : Nat) : Int) ^ (4 * (S - M)) = 16 ^ (S - M) := by rw [Int.pow_mul]; rfl
    rw [e, Int.mul_comm, Int.mul_assoc]; rfl
  have hY : (2 : Int) ^ (4 * S) = ((2 ^ (4 * M - j) * 2 ^ (j + 4 * (S - M)) : Nat) : Int) := by
    rw [← Nat.pow_add, show 4 * M - j + (j + 4 * (S - M)) = 4 * S by omega, Int.natCast_pow]; rfl
  have hg : Nat.gcd n (2 ^ (4 * M - j)) = 1 := by
    rcases h4 with q | q
    · have : (2 : Nat) ^ (4 * M - j) = 1 := by
        have e : ((2 ^ (4 * M - j) : Nat) : Int) = 1 := by rw [Int.natCast_pow]; exact h3.symm.trans q
        omega
      rw [this]; exact Nat.gcd_one_right n
    · refine Nat.Coprime.pow_right _ ?_
      show Nat.gcd n 2 = 1
      rw [Nat.gcd_comm, Nat.gcd_rec, show n % 2 = 1 by omega]
      rfl
  have hpos : 0 < (2 : Nat) ^ (j + 4 * (S - M)) := Nat.pow_pos (by decide)
  rw [hX, hY, Int.toNat_natCast, Int.toNat_natCast, Nat.gcd_mul_right, hg, Nat.one_mul]
  constructor
  · rw [← Int.natCast_ediv, Nat.mul_div_cancel _ hpos]
  · rw [← Int.natCast_ediv, Nat.mul_div_cancel _ hpos, h3, Int.natCast_pow]; rfl
theorem ftL_ins {z hr ho so : Int → Int} (h3 : z 3 = 3) (d : Int) (es : List Int) : ∀ l, ftL z hr ho so d es l ≠ 3 := by
  induction es with
  | nil => intro l; simp [ftL]
  | cons a es ih =>
    intro l
    simp only [ftL]
    split
    · unfold ftw dpw
      rw [h3]
      unfold deepOf fateOf
      rw [if_pos (Or.inr rfl)]
      split
      · decide
      · rw [if_pos rfl]; decide
    · exact ih _
theorem tsL_ins {z hr ho so : Int → Int} (h3 : z 3 = 3) (es : List Int) (l le si d : Int) : tsL z hr ho so es l le si d = false := by
  unfold tsL
  rw [decide_eq_false (fun q => ftL_ins h3 d es l q.1)]; rfl
abbrev K7 : List Nat := [58, 62, 63, 64, 65, 66, 72]
theorem K7.fr {σ1 σ2 : Mem} (hS : Same K7 σ1 σ2) : FrM σ1 σ2 := ⟨hS.wide (fun i q => by simp only [List.mem_cons, List.not_mem_nil, or_false] at *; omega), fun k _ _ _ _ => by rw [hS 1 (by decide)]⟩
theorem RR.kind {σ1 σ2 : Mem} (hR : RR σ1) (hS : Same K7 σ1 σ2) (hk : ∀ k, 0 ≤ k → k < σ1 0 2 → σ2 58 k = σ1 58 k) : RR σ2 := by
  have f := K7.fr hS
  refine ⟨hR.1.mm f.1, hR.2.1.mm f, ?_⟩
  have hn := hR.1.ns
  obtain ⟨-, -, a, b, c, d⟩ := hR
  unfold RD
  rw [hS 1 (by decide), hS 0 (by decide), hS 2 (by decide), hS 59 (by decide), hS 60 (by decide), hS 61 (by decide), hS 33 (by decide), hS 34 (by decide), hS 35 (by decide), hS 55 (by decide), hS 56 (by decide), hS 57 (by decide)]
  refine ⟨a, b, fun s q => ?_, d⟩
  rw [hS (8 + s) (by simp; omega), hk s (by omega) q]; exact c s q
def kdS (set : Nat) (k v : Int) : Int := if set.testBit k.toNat = true then 3 else v
theorem feign_n {σ1 σ4 : Mem} {set : Nat} (hN : NPre σ1) (hS : Same K7 σ1 σ4) (hk : ∀ j, 0 ≤ j → j < σ1 1 2 → σ4 58 j = kdS set j (σ1 58 j)) : NPre σ4 := by
  obtain ⟨a1, a2, a3, a4, a5, a6, a7⟩ := hN
  unfold NPre
  rw [hS 1 (by decide), hS 59 (by decide), hS 60 (by decide), hS 61 (by decide)]
  refine ⟨a1, a2, fun k q1 q2 => ?_, a4, a5, a6, a7⟩
  have := a3 k q1 q2
  obtain ⟨m0, m1, m2, m3⟩ := mz_v σ4 k
  obtain ⟨n0, n1, n2, n3⟩ := mz_v σ1 k
  unfold BedOK at *
  rw [n0, n1, n2, n3] at this
  rw [m0, m1, m2, m3, hS 55 (by decide), hS 56 (by decide), hS 57 (by decide), hk k q1 q2]
  unfold kdS
  refine ⟨this.1, this.2.1, this.2.2.1, ?_⟩
  split
  · omega
  · exact this.2.2.2
theorem feign_w {σ1 σ4 σ5 : Mem} {set : Nat} {d : Int} (hR : RR σ1) (h14 : σ1 1 14 = 0) (h15 : σ1 1 15 = 0) (hS : Same K7 σ1 σ4) (hk : ∀ j, 0 ≤ j → j < σ1 1 2 → σ4 58 j = kdS set j (σ1 58 j)) (hd : 0 ≤ d ∧ d < σ1 2 4) (hq : RunQ σ4 σ5) : prB σ5 d = decide (σ1 25 2 ≤ cnt (fP (fun s => cTS σ1 s d) set) (σ1 0 2).toNat) := by
  have hn := hR.1.ns
  have k1 : σ4 1 = σ1 1 := hS 1 (by decide)
  have e2 := hR.2.2.1
  have e7 := hR.2.2.2.1
  rw [hq.pr (by rw [k1, e2]; omega) (by rw [k1, e7]; exact hd), mP_0 (by rw [k1]; exact h14), Bool.true_and, k1, e2, hR.2.1.2.2.2.2.2]
  have mEs : mE σ4 = mE σ1 := by
    funext m
    unfold mE
    rw [k1, hS 59 (by decide)]
    refine List.filter_congr (fun x _ => ?_)
    unfold mP
    rw [k1]
  have e : cnt (fun k : Nat => mTS σ4 (k : Int) d) (σ1 0 2).toNat = cnt (fP (fun s => cTS σ1 s d) set) (σ1 0 2).toNat := cnt_cg (fun s hs => by
    have hks := hk s (by omega) (by rw [e2]; omega)
    obtain ⟨m0, m1, m2, m3⟩ := mz_v σ4 s
    obtain ⟨n0, n1, n2, n3⟩ := mz_v σ1 s
    unfold fP
    unfold kdS at hks
    rw [show ((s : Nat) : Int).toNat = s from rfl] at hks
    cases c : set.testBit s with
    | true =>
      rw [c, if_pos rfl] at hks
      unfold mTS
      rw [tsL_ins (by rw [m3]; exact hks)]
      simp
    | false =>
      rw [c, if_neg (by decide)] at hks
      have hz : mz σ4 s 0 = mz σ1 s 0 ∧ mz σ4 s 1 = mz σ1 s 1 ∧ mz σ4 s 2 = mz σ1 s 2 ∧ mz σ4 s 3 = mz σ1 s 3 := by
        rw [m0, m1, m2, m3, n0, n1, n2, n3, hks, hS 55 (by decide), hS 56 (by decide), hS 57 (by decide)]
        exact ⟨rfl, rfl, rfl, rfl⟩
      have ht := hR.tsl h14 (s := s) (by omega) hd
      have : mTS σ4 s d = mTS σ1 s d := by
        unfold mTS
        rw [mEs, k1, hS 56 (by decide), hS 59 (by decide), hS 60 (by decide), hS 61 (by decide), tsL_cg hz (fun _ _ => ⟨rfl, rfl, rfl⟩) _ _ _ rfl]
      rw [this, ht, h15]
      simp)
  rw [e]
theorem gV_in {c : Int} (hc : 0 ≤ c ∧ c ≤ 16) (T : Nat → Bool) {n : Nat} (hn : n ≤ 8) (p : Int) (set : Nat) : 0 ≤ gV c T n p set ∧ gV c T n p set ≤ 4294967296 := by
  have h1 := wt_in hc set n
  have h2 := p16_le n hn
  unfold gV
  split <;> omega
theorem gS_in {c : Int} (hc : 0 ≤ c ∧ c ≤ 16) (T : Nat → Bool) {n : Nat} (hn : n ≤ 8) (p : Int) {m : Nat} (hm : m ≤ 256) : 0 ≤ sumN (gV c T n p) m ∧ sumN (gV c T n p) m ≤ 1099511627776 := by
  have h := sumN_in (f := gV c T n p) (n := m) (m := 4294967296) (fun k _ => gV_in hc T hn p k)
  omega
theorem feign_t {σ : Mem} {c d : Int} (hns : 0 ≤ σ 0 2 ∧ σ 0 2 ≤ 8) : gG c (fun s => cTS σ s d) (σ 0 2).toNat (σ 25 2) = 16 ^ ((σ 0 2).toNat - fgM σ d) * fgT σ c d ∧ fgM σ d ≤ (σ 0 2).toNat := by
  have hb := cnt_in (fun s => cTS σ s d) (σ 0 2).toNat
  refine ⟨?_, by unfold fgM; omega⟩
  rw [gG_tA]
  unfold fgT
  rw [abv_tA c (fgM σ d) (σ 25 2) _ (by omega)]
  rfl
theorem tb_iff {s : Int} (hs : 0 ≤ s) (k : Nat) : s / 2 ^ k % 2 = 1 ↔ s.toNat.testBit k = true := by
  obtain ⟨n, rfl⟩ := Int.eq_ofNat_of_zero_le hs
  rw [Int.toNat_natCast, Nat.testBit_eq_decide_div_mod_eq, decide_eq_true_eq]
  have : ((n / 2 ^ k % 2 : Nat) : Int) = (n : Int) / 2 ^ k % 2 := by
    rw [Int.natCast_emod, Int.natCast_ediv, Int.natCast_pow]; rfl
  omega
