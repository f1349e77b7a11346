/-! the memory of a new object and of a new model -/
def row3 (a b c : Int) (k : Int) : Int := if k = 0 then a else if k = 1 then b else if k = 2 then c else 0
def σ0 : Mem := fun i => if i = 25 then row3 1 2 2 else if i = 31 then row3 9 9 3 else if i = 32 then row3 4 9 9 else if i = 1 then (fun k => row3 1 2 2 (k - 11)) else if 18 ≤ i ∧ i < 22 then (fun k => if k = 1 then 1 else 0) else fun _ => 0
theorem z0 {i : Nat} (h : i ≠ 25 ∧ i ≠ 31 ∧ i ≠ 32 ∧ i ≠ 1 ∧ ¬ (18 ≤ i ∧ i < 22)) : σ0 i = fun _ => 0 := by
  unfold σ0
  rw [if_neg h.1, if_neg h.2.1, if_neg h.2.2.1, if_neg h.2.2.2.1, if_neg h.2.2.2.2]
theorem z18 {i : Nat} (h : 18 ≤ i ∧ i < 22) : σ0 i = fun k => if k = 1 then 1 else 0 := by
  unfold σ0
  rw [if_neg (by omega), if_neg (by omega), if_neg (by omega), if_neg (by omega), if_pos h]
theorem row3_in {a b c : Int} (ha : 0 ≤ a ∧ a ≤ 9) (hb : 0 ≤ b ∧ b ≤ 9) (hc : 0 ≤ c ∧ c ≤ 9) (k : Int) : 0 ≤ row3 a b c k ∧ row3 a b c k ≤ 9 := by
  unfold row3
  repeat (first | omega | split)
theorem z_in (i : Nat) (k : Int) : 0 ≤ σ0 i k ∧ σ0 i k ≤ 9 := by
  unfold σ0
  split
  · exact row3_in (by decide) (by decide) (by decide) k
  · split
    · exact row3_in (by decide) (by decide) (by decide) k
    · split
      · exact row3_in (by decide) (by decide) (by decide) k
      · split
        · exact row3_in (by decide) (by decide) (by decide) _
        · split
          · show 0 ≤ (if k = 1 then (1 : Int) else 0) ∧ (if k = 1 then (1 : Int) else 0) ≤ 9
            split <;> omega
          · show (0 : Int) ≤ 0 ∧ (0 : Int) ≤ 9
            omega
theorem canon0 : Canon σ0 := fun i k => by
  have := z_in i k
  exact ⟨by omega, fun _ _ _ => by omega⟩
theorem ff0 {t : Nat} {b : Int → Int} : FFz t b 0 (-1) := Or.inr ⟨fun j h1 h2 => by omega, rfl⟩
theorem inv0 : InvC σ0 := by
  have a16 := z0 (i := 16) (by decide)
  have a17 := z0 (i := 17) (by decide)
  have a29 := z0 (i := 29) (by decide)
  have a30 := z0 (i := 30) (by decide)
  have a0 := z0 (i := 0) (by decide)
  have a2 := z0 (i := 2) (by decide)
  have a4 := z0 (i := 4) (by decide)
  refine ⟨⟨?_, ?_, ?_, ?_⟩, ⟨-1, ?_, ?_, ?_⟩, ⟨-1, ?_, ?_, ⟨?_, ?_, ?_⟩, ?_⟩, ?_, ⟨?_, ?_⟩, ?_, ?_⟩
  · rw [a16, a17]; decide
  · rw [a29, a30]; exact ⟨fun k _ _ => (by decide : (0 : Int) ≤ 0 ∧ (0 : Int) < 256), fun k _ _ => (by decide : (0 : Int) ≤ 0 ∧ (0 : Int) < 256)⟩
  · intro k h1 h2
    rcases (show k = 0 ∨ k = 1 ∨ k = 2 by omega) with rfl | rfl | rfl <;> decide
  · intro k h1 h2
    rcases (show k = 0 ∨ k = 1 ∨ k = 2 by omega) with rfl | rfl | rfl <;> decide
  · rw [a16]; exact ff0
  · rw [a0, a16]; decide
  · intro s hs
    rw [a0] at hs
    have : (s : Int) < 0 := hs
    omega
  · rw [a17]; exact ff0
  · rw [a2, a17]; decide
  · rw [a2]; decide
  · intro d h1 h2
    rw [a2] at h2
    have : d < 0 := h2
    omega
  · rw [a2]; decide +kernel
  · intro d h1 h2
    rw [a2] at h2
    have : d < 0 := h2
    omega
  · show LawOK (σ0 25)
    unfold LawOK
    decide
  · rw [a4]; decide
  · intro k h1 h2
    rw [a4] at h2
    have : k < 0 := h2
    omega
  · intro s hs
    rw [z18 (i := 18 + s) (by omega)]
    exact ⟨Or.inr rfl, by decide, by decide⟩
  · rw [a0]; decide
theorem jj0 : JJ σ0 := by
  have z := @z0
  refine ⟨inv0, ⟨⟨⟨?_, ?_⟩, ?_, ?_, ?_⟩, ⟨?_, ?_⟩, ?_, ?_⟩⟩
  · rw [z (i := 53) (by decide)]; decide
  · intro k _ _
    rw [z (i := 54) (by decide)]; exact (by decide : (0 : Int) ≤ 0 ∧ (0 : Int) < 256)
  · rw [z (i := 53) (by decide), z (i := 16) (by decide), z (i := 17) (by decide)]; exact ⟨rfl, rfl⟩
  · rw [z (i := 54) (by decide), z (i := 29) (by decide), z (i := 30) (by decide)]; exact ⟨fun _ _ _ => rfl, fun _ _ _ => rfl⟩
  · decide
  · rw [z (i := 4) (by decide)]; decide
  · intro k h1 h2
    rw [z (i := 68) (by decide), z (i := 69) (by decide), z (i := 70) (by decide), z (i := 41) (by decide), z (i := 42) (by decide), z (i := 43) (by decide)]
    exact ⟨rfl, rfl, rfl⟩
  · intro s hs
    rw [z (i := 73) (by decide), z (i := 74) (by decide), z (i := 75) (by decide), z (i := 76) (by decide), z18 (i := 18 + s) (by omega), z (i := 49 + s) (by omega)]
    exact ⟨rfl, rfl, rfl, fun _ _ _ => rfl⟩
  · rw [z (i := 0) (by decide)]; decide
