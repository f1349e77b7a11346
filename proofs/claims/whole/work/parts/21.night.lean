/-! one sleeper's night: z its fields (house, bedtime, supper, kind), hr ho so the deeds (hours, houses, sounds), a list of deeds in the order in which they come, l since when it lies -/
def ldw (z ho so : Int → Int) (d : Int) : Int := loudOf (z 0) (ho d) (so d)
def dpw (z hr : Int → Int) (d l : Int) : Int := deepOf (z 2) (z 3) (hr d - l)
def ftw (z hr ho so : Int → Int) (d l : Int) : Int := fateOf (ldw z ho so d) (dpw z hr d l)
def lnw (z hr ho so : Int → Int) (d l : Int) : Int := if ftw z hr ho so d l = 2 then hr d + 3 else l
def lnL (z hr ho so : Int → Int) : List Int → Int → Int
  | [], l => l
  | d :: ds, l => lnL z hr ho so ds (lnw z hr ho so d l)
/-- how many of them become f and have q -/
def cnL (z hr ho so : Int → Int) (f : Int) (q : Int → Bool) : List Int → Int → Int
  | [], _ => 0
  | d :: ds, l => (if ftw z hr ho so d l = f ∧ q d = true then 1 else 0) + cnL z hr ho so f q ds (lnw z hr ho so d l)
def ftL (z hr ho so : Int → Int) (d : Int) : List Int → Int → Int
  | [], _ => 0
  | e :: es, l => if e = d then ftw z hr ho so e l else ftL z hr ho so d es (lnw z hr ho so e l)
def dpL (z hr ho so : Int → Int) (d : Int) : List Int → Int → Int
  | [], _ => 0
  | e :: es, l => if e = d then dpw z hr e l else dpL z hr ho so d es (lnw z hr ho so e l)
def lateL (z hr ho so : Int → Int) (es : List Int) (l si hour : Int) : Bool := (List.range 50).any (fun h => decide (hour - si ≤ (h : Int) ∧ (h : Int) ≤ hour) && decide (0 < cnL z hr ho so 2 (fun d => decide (hr d = (h : Int))) es l))
def tsL (z hr ho so : Int → Int) (es : List Int) (l le si d : Int) : Bool := decide (ftL z hr ho so d es l = 3 ∧ le ≤ dpL z hr ho so d es l) && !lateL z hr ho so es l si (hr d)
section NIGHT
variable {z hr ho so : Int → Int}
theorem lnL_app (es fs : List Int) (l : Int) : lnL z hr ho so (es ++ fs) l = lnL z hr ho so fs (lnL z hr ho so es l) := by
  induction es generalizing l with
  | nil => rfl
  | cons a es ih => exact ih _
theorem cnL_app (f : Int) (q : Int → Bool) (es fs : List Int) (l : Int) : cnL z hr ho so f q (es ++ fs) l = cnL z hr ho so f q es l + cnL z hr ho so f q fs (lnL z hr ho so es l) := by
  induction es generalizing l with
  | nil => simp [cnL, lnL]
  | cons a es ih => simp only [List.cons_append, cnL, lnL, ih]; omega
theorem cnL_one (f : Int) (q : Int → Bool) (e : Int) (es : List Int) (l : Int) : cnL z hr ho so f q (es ++ [e]) l = cnL z hr ho so f q es l + (if ftw z hr ho so e (lnL z hr ho so es l) = f ∧ q e = true then 1 else 0) := by
  rw [cnL_app]; simp [cnL]
theorem ftL_in {d : Int} {es : List Int} (h : d ∈ es) (fs : List Int) (l : Int) : ftL z hr ho so d (es ++ fs) l = ftL z hr ho so d es l := by
  induction es generalizing l with
  | nil => cases h
  | cons a es ih =>
    simp only [List.cons_append, ftL]
    by_cases ha : a = d
    · rw [if_pos ha, if_pos ha]
    · rw [if_neg ha, if_neg ha]
      exact ih ((List.mem_cons.mp h).resolve_left (fun q => ha q.symm)) _
theorem dpL_in {d : Int} {es : List Int} (h : d ∈ es) (fs : List Int) (l : Int) : dpL z hr ho so d (es ++ fs) l = dpL z hr ho so d es l := by
  induction es generalizing l with
  | nil => cases h
  | cons a es ih =>
    simp only [List.cons_append, dpL]
    by_cases ha : a = d
    · rw [if_pos ha, if_pos ha]
    · rw [if_neg ha, if_neg ha]
      exact ih ((List.mem_cons.mp h).resolve_left (fun q => ha q.symm)) _
theorem ftL_new {d : Int} {es : List Int} (h : d ∉ es) (fs : List Int) (l : Int) : ftL z hr ho so d (es ++ d :: fs) l = ftw z hr ho so d (lnL z hr ho so es l) := by
  induction es generalizing l with
  | nil => simp [ftL, lnL]
  | cons a es ih =>
    have ha : a ≠ d := fun q => h (q ▸ List.mem_cons_self)
    simp only [List.cons_append, ftL, lnL, if_neg ha]
    exact ih (fun q => h (List.mem_cons_of_mem _ q)) _
theorem dpL_new {d : Int} {es : List Int} (h : d ∉ es) (fs : List Int) (l : Int) : dpL z hr ho so d (es ++ d :: fs) l = dpw z hr d (lnL z hr ho so es l) := by
  induction es generalizing l with
  | nil => simp [dpL, lnL]
  | cons a es ih =>
    have ha : a ≠ d := fun q => h (q ▸ List.mem_cons_self)
    simp only [List.cons_append, dpL, lnL, if_neg ha]
    exact ih (fun q => h (List.mem_cons_of_mem _ q)) _
theorem cnL_in (f : Int) (q : Int → Bool) (es : List Int) (l : Int) : 0 ≤ cnL z hr ho so f q es l ∧ cnL z hr ho so f q es l ≤ es.length := by
  induction es generalizing l with
  | nil => simp [cnL]
  | cons a es ih =>
    have := ih (lnw z hr ho so a l)
    simp only [cnL, List.length_cons]
    split <;> omega
theorem lnL_in {n : Int} {es : List Int} (hh : ∀ d ∈ es, 0 ≤ hr d ∧ hr d < 50) {l : Int} (hl : 0 ≤ l ∧ l < 53) : 0 ≤ lnL z hr ho so es l ∧ lnL z hr ho so es l < 53 := by
  induction es generalizing l with
  | nil => exact hl
  | cons a es ih =>
    refine ih (fun d h => hh d (List.mem_cons_of_mem _ h)) ?_
    have := hh a List.mem_cons_self
    unfold lnw
    split <;> omega
end NIGHT
/-- the first n places of a row, as a list -/
def ordL (od : Int → Int) (n : Nat) : List Int := (List.range n).map (fun k : Nat => od (k : Int))
theorem ordL_s (od : Int → Int) (n : Nat) : ordL od (n + 1) = ordL od n ++ [od n] := by simp [ordL, List.range_succ]
theorem ordL_len (od : Int → Int) (n : Nat) : (ordL od n).length = n := by simp [ordL]
theorem ordL_mem {od : Int → Int} {n : Nat} {d : Int} : d ∈ ordL od n ↔ ∃ k : Nat, k < n ∧ od k = d := by simp [ordL]
theorem ordL_app (od : Int → Int) (k m : Nat) : ordL od (k + m) = ordL od k ++ (List.range m).map (fun j : Nat => od ((k + j : Nat) : Int)) := by
  simp [ordL, List.range_add, Function.comp_def]
theorem ordL_cg {od od' : Int → Int} {n : Nat} (h : ∀ k : Int, 0 ≤ k → k < n → od' k = od k) : ordL od' n = ordL od n := by
  unfold ordL
  apply List.map_congr_left
  intro k hk
  exact h k (by omega) (by have := List.mem_range.mp hk; omega)
/-- deeds by hour, of like ones as told -/
def evH (hr : Int → Int) (n : Nat) (h : Nat) : List Int := (ordL (fun k => k) n).filter (fun d => decide (hr d = (h : Int)))
def evs (hr : Int → Int) (n : Nat) : Nat → List Int
  | 0 => []
  | h + 1 => evs hr n h ++ evH hr n h
/-- a row of deeds is as it should be -/
def RowOK (hr ho so od : Int → Int) (n : Int) : Prop := (0 ≤ n ∧ n ≤ 8) ∧ (∀ d, 0 ≤ d → d < n → (0 ≤ hr d ∧ hr d < 50) ∧ (0 ≤ ho d ∧ ho d ≤ 9) ∧ (0 ≤ so d ∧ so d < 4)) ∧ ordL od n.toNat = evs hr n.toNat 50
def BedOK (z : Int → Int) : Prop := (0 ≤ z 0 ∧ z 0 ≤ 9) ∧ (0 ≤ z 1 ∧ z 1 ≤ 9) ∧ (0 ≤ z 2 ∧ z 2 ≤ 3) ∧ (0 ≤ z 3 ∧ z 3 ≤ 3)
def LawOK (r : Int → Int) : Prop := (0 ≤ r 0 ∧ r 0 ≤ 9) ∧ (0 ≤ r 1 ∧ r 1 ≤ 9) ∧ (1 ≤ r 2 ∧ r 2 ≤ 8)
theorem id_mem {n : Nat} {d : Int} : d ∈ ordL (fun k => k) n ↔ 0 ≤ d ∧ d < n := by
  rw [ordL_mem]
  constructor
  · rintro ⟨k, h, rfl⟩; omega
  · intro h; exact ⟨d.toNat, by omega, by omega⟩
theorem id_nodup (n : Nat) : (ordL (fun k => k) n).Nodup := by
  induction n with
  | zero => simp [ordL]
  | succ n ih =>
    rw [ordL_s, List.nodup_append]
    refine ⟨ih, by simp, ?_⟩
    intro a ha b hb
    have := id_mem.mp ha
    have hb' : b = n := by simpa using hb
    omega
theorem evH_mem {hr : Int → Int} {n h : Nat} {d : Int} : d ∈ evH hr n h ↔ (0 ≤ d ∧ d < n) ∧ hr d = h := by
  simp [evH, List.mem_filter, id_mem]
theorem evs_mem {hr : Int → Int} {n h : Nat} {d : Int} : d ∈ evs hr n h ↔ (0 ≤ d ∧ d < n) ∧ 0 ≤ hr d ∧ hr d < h := by
  induction h with
  | zero => simp [evs]
  | succ h ih =>
    rw [evs, List.mem_append, ih, evH_mem]
    constructor
    · rintro (h1 | h1) <;> omega
    · intro h1
      by_cases hh : hr d = h
      · exact Or.inr ⟨h1.1, hh⟩
      · exact Or.inl ⟨h1.1, by omega⟩
theorem evs_nodup (hr : Int → Int) (n h : Nat) : (evs hr n h).Nodup := by
  induction h with
  | zero => simp [evs]
  | succ h ih =>
    rw [evs, List.nodup_append]
    refine ⟨ih, (id_nodup n).filter _, ?_⟩
    intro a ha b hb hab
    have h1 := evs_mem.mp ha
    have h2 := evH_mem.mp hb
    subst hab
    omega
/-! bits -/
def WB (m : Int) (S : Nat → Prop) : Prop := 0 ≤ m ∧ m < 1125899906842624 ∧ ∀ h : Nat, h < 50 → (m.toNat.testBit h = true ↔ S h)
theorem WB_0 {S : Nat → Prop} (h : ∀ k, k < 50 → ¬ S k) : WB 0 S := ⟨by omega, by omega, fun k hk => by simp [h k hk]⟩
theorem WB_or {m : Int} {S S' : Nat → Prop} (hw : WB m S) {k : Int} (hk : 0 ≤ k ∧ k < 50) (h : ∀ j : Nat, j < 50 → (S' j ↔ S j ∨ (j : Int) = k)) : WB (orZ m (2 ^ k.toNat)) S' := by
  obtain ⟨n, rfl⟩ := Int.eq_ofNat_of_zero_le hk.1
  obtain ⟨h0, h1, h2⟩ := hw
  have e2 : ((2 : Int) ^ n).toNat = 2 ^ n := by rw [← p2_cast n]; rfl
  unfold orZ
  rw [show ((n : Int).toNat) = n from rfl, e2]
  refine ⟨by omega, ?_, fun j hj => ?_⟩
  · have a : m.toNat < 2 ^ 50 := by omega
    have b : 2 ^ n < 2 ^ 50 := Nat.pow_lt_pow_right (by decide) (by omega)
    have := Nat.or_lt_two_pow a b
    omega
  · rw [h j hj, ← h2 j hj]
    simp only [Int.toNat_natCast, Nat.testBit_or, Bool.or_eq_true, Nat.testBit_two_pow, decide_eq_true_eq]
    constructor
    · rintro (q | q)
      · exact Or.inl q
      · exact Or.inr (by omega)
    · rintro (q | q)
      · exact Or.inl q
      · exact Or.inr (by omega)
theorem WB_late {m : Int} {S : Nat → Prop} (hw : WB m S) {a b : Int} (ha : 0 ≤ a) (hab : a ≤ b) (hb : b < 50) : (m / 2 ^ a.toNat % 2 ^ (b - a + 1).toNat = 0) ↔ ∀ h : Nat, a ≤ h → (h : Int) ≤ b → ¬ S h := by
  obtain ⟨h0, h1, h2⟩ := hw
  obtain ⟨x, rfl⟩ := Int.eq_ofNat_of_zero_le ha
  obtain ⟨y, hy⟩ := Int.eq_ofNat_of_zero_le (show 0 ≤ b - x + 1 by omega)
  obtain ⟨n, rfl⟩ := Int.eq_ofNat_of_zero_le h0
  rw [hy]
  simp only [Int.toNat_natCast]
  have e : ((n : Int) / 2 ^ x % 2 ^ y = 0) ↔ (n / 2 ^ x % 2 ^ y = 0) := by
    rw [← p2_cast x, ← p2_cast y, ← Int.natCast_ediv, ← Int.natCast_emod]
    omega
  rw [e]
  constructor
  · intro h k hk1 hk2 hS
    have ht := (h2 k (by omega)).mpr hS
    have : (n / 2 ^ x % 2 ^ y).testBit (k - x) = true := by
      rw [Nat.testBit_mod_two_pow, Nat.testBit_div_two_pow]
      simp only [Bool.and_eq_true, decide_eq_true_eq]
      refine ⟨by omega, ?_⟩
      rw [show k - x + x = k by omega]; exact ht
    rw [h] at this
    simp at this
  · intro h
    apply Nat.eq_of_testBit_eq
    intro i
    rw [Nat.testBit_mod_two_pow, Nat.testBit_div_two_pow]
    simp only [Nat.zero_testBit, Bool.and_eq_false_iff, decide_eq_false_iff_not]
    by_cases hi : i < y
    · right
      have := h (i + x) (by omega) (by omega)
      have h3 := h2 (i + x) (by omega)
      cases hq : n.testBit (i + x) with
      | false => rfl
      | true => exact absurd (h3.mp hq) this
    · left; exact hi
/-- bits of n flags, as a number -/
def bsum (p : Nat → Bool) : Nat → Int
  | 0 => 0
  | n + 1 => bsum p n + (if p n = true then 2 ^ n else 0)
def cnt (p : Nat → Bool) : Nat → Int
  | 0 => 0
  | n + 1 => cnt p n + (if p n = true then 1 else 0)
theorem bsum_in (p : Nat → Bool) (n : Nat) : 0 ≤ bsum p n ∧ bsum p n < 2 ^ n := by
  induction n with
  | zero => simp [bsum]
  | succ n ih =>
    have := p2_pos n
    have e : (2 : Int) ^ (n + 1) = 2 * 2 ^ n := by rw [Int.pow_succ]; omega
    simp only [bsum]
    split <;> omega
theorem cnt_in (p : Nat → Bool) (n : Nat) : 0 ≤ cnt p n ∧ cnt p n ≤ n := by
  induction n with
  | zero => simp [cnt]
  | succ n ih => simp only [cnt]; split <;> omega
theorem bsum_cg {p q : Nat → Bool} {n : Nat} (h : ∀ k, k < n → p k = q k) : bsum p n = bsum q n := by
  induction n with
  | zero => rfl
  | succ n ih => simp only [bsum]; rw [ih (fun k hk => h k (by omega)), h n (by omega)]
theorem cnt_cg {p q : Nat → Bool} {n : Nat} (h : ∀ k, k < n → p k = q k) : cnt p n = cnt q n := by
  induction n with
  | zero => rfl
  | succ n ih => simp only [cnt]; rw [ih (fun k hk => h k (by omega)), h n (by omega)]
theorem bsum_bit (p : Nat → Bool) {n d : Nat} (h : d < n) : bsum p n / 2 ^ d % 2 = if p d = true then 1 else 0 := by
  induction n with
  | zero => omega
  | succ n ih =>
    have hb := bsum_in p n
    have hd0 := p2_pos d
    simp only [bsum]
    by_cases hn : d = n
    · subst hn
      by_cases hp : p d = true
      · rw [if_pos hp, if_pos hp]
        have : (bsum p d + 2 ^ d) / 2 ^ d = 1 := by
          rw [Int.add_ediv_of_dvd_right (Int.dvd_refl _), Int.ediv_self (by omega), Int.ediv_eq_zero_of_lt hb.1 hb.2]; rfl
        rw [this]; rfl
      · rw [if_neg hp, if_neg hp, Int.add_zero, Int.ediv_eq_zero_of_lt hb.1 hb.2]; rfl
    · have ih' := ih (by omega)
      by_cases hp : p n = true
      · rw [if_pos hp]
        have e : (2 : Int) ^ n = 2 ^ d * (2 * 2 ^ (n - d - 1)) := by
          rw [show (2 : Int) * 2 ^ (n - d - 1) = 2 ^ (n - d - 1 + 1) by rw [Int.pow_succ]; omega, ← Int.pow_add]
          congr 1; omega
        rw [e, Int.add_mul_ediv_left _ _ (by omega)]
        rw [← ih']
        omega
      · rw [if_neg hp, Int.add_zero]; exact ih'
theorem pc8_bsum8 (p : Nat → Bool) : pc8 (bsum p 8) = cnt p 8 := by
  have k : ∀ a b c d e f g h : Bool, pc8 (0 + (if a = true then 2 ^ 0 else 0) + (if b = true then 2 ^ 1 else 0) + (if c = true then 2 ^ 2 else 0) + (if d = true then 2 ^ 3 else 0) + (if e = true then 2 ^ 4 else 0) + (if f = true then 2 ^ 5 else 0) + (if g = true then 2 ^ 6 else 0) + (if h = true then 2 ^ 7 else 0))
      = 0 + (if a = true then 1 else 0) + (if b = true then 1 else 0) + (if c = true then 1 else 0) + (if d = true then 1 else 0) + (if e = true then 1 else 0) + (if f = true then 1 else 0) + (if g = true then 1 else 0) + (if h = true then 1 else 0) := by decide +kernel
  exact k _ _ _ _ _ _ _ _
theorem bsum_ext (p : Nat → Bool) (n m : Nat) : bsum (fun k => p k && decide (k < n)) (n + m) = bsum p n := by
  induction m with
  | zero => exact bsum_cg (fun k hk => by simp [show k < n from hk])
  | succ m ih => rw [← Nat.add_assoc]; simp only [bsum]; rw [ih]; simp only [show ¬ n + m < n by omega, decide_false, Bool.and_false, Bool.false_eq_true, if_false, Int.add_zero]
theorem cnt_ext (p : Nat → Bool) (n m : Nat) : cnt (fun k => p k && decide (k < n)) (n + m) = cnt p n := by
  induction m with
  | zero => exact cnt_cg (fun k hk => by simp [show k < n from hk])
  | succ m ih => rw [← Nat.add_assoc]; simp only [cnt]; rw [ih]; simp only [show ¬ n + m < n by omega, decide_false, Bool.and_false, Bool.false_eq_true, if_false, Int.add_zero]
theorem pc8_bsum (p : Nat → Bool) {n : Nat} (h : n ≤ 8) : pc8 (bsum p n) = cnt p n := by
  have := pc8_bsum8 (fun k => p k && decide (k < n))
  rw [← bsum_ext p n (8 - n), ← cnt_ext p n (8 - n), show n + (8 - n) = 8 by omega]
  exact this
