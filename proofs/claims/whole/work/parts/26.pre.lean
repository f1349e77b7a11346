theorem i_oradd {a : Int} {n : Nat} (ha : 0 ≤ a ∧ a < 2 ^ n) (hn : n < 31) : I a ||| I (2 ^ n) = I (a + 2 ^ n) := by
  have h1 : ∀ n : Nat, n < 31 → (2 : Int) ^ n < 2147483648 := by decide
  have := h1 n hn
  have h0 := p2_pos n
  rw [i_or (by omega) (by omega), orZ_add ha]
theorem p2_8 : ∀ n : Nat, n < 8 → (2 : Int) ^ n ≤ 128 := by decide
theorem ftL_bd (z hr ho so : Int → Int) (d : Int) (es : List Int) (l : Int) : 0 ≤ ftL z hr ho so d es l ∧ ftL z hr ho so d es l ≤ 3 := by
  induction es generalizing l with
  | nil => simp [ftL]
  | cons e es ih =>
    simp only [ftL]
    split
    · exact fateOf_in _ _
    · exact ih _
theorem dpL_bd {z : Int → Int} (hz : BedOK z) (hr ho so : Int → Int) (d : Int) (es : List Int) (l : Int) : 0 ≤ dpL z hr ho so d es l ∧ dpL z hr ho so d es l ≤ 10 := by
  induction es generalizing l with
  | nil => simp [dpL]
  | cons e es ih =>
    simp only [dpL]
    split
    · exact deepOf_in hz.2.2.1
    · exact ih _
theorem NightI.bd {σ σ1 : Mem} {z hr ho so : Int → Int} {es : List Int} (h : NightI σ σ1 z hr ho so es) (hz : BedOK z) (hh : ∀ d ∈ es, 0 ≤ hr d ∧ hr d < 50) : (0 ≤ σ1 5 7 ∧ σ1 5 7 < 53) ∧ (0 ≤ σ1 5 4 ∧ σ1 5 4 ≤ es.length) ∧ (0 ≤ σ1 5 5 ∧ σ1 5 5 ≤ es.length) ∧ (∀ s, 0 ≤ s → s < 4 → 0 ≤ σ1 47 s ∧ σ1 47 s ≤ es.length) ∧ (0 ≤ σ1 5 8 ∧ σ1 5 8 < 1125899906842624) := by
  obtain ⟨h1, h2, h3, h4, h5, h6, h7⟩ := h
  refine ⟨?_, ?_, ?_, fun s a b => ?_, h6.1, h6.2.1⟩
  · rw [h2]; exact lnL_in (n := 0) hh (by have := hz.2.1; omega)
  · rw [h3]; exact cnL_in _ _ _ _
  · rw [h4]; exact cnL_in _ _ _ _
  · rw [h5 s a b]; exact cnL_in _ _ _ _
theorem ordL_k (od : Int → Int) {k : Int} (hk : 0 ≤ k) : ordL od (k + 1).toNat = ordL od k.toNat ++ [od k] := by
  rw [show (k + 1).toNat = k.toNat + 1 by omega, ordL_s, show ((k.toNat : Nat) : Int) = k by omega]
