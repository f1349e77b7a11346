theorem evs_split (hr : Int → Int) (n h m : Nat) : ∃ t, evs hr n (h + m) = evs hr n h ++ t ∧ ∀ d ∈ t, (h : Int) ≤ hr d := by
  induction m with
  | zero => exact ⟨[], by simp, by simp⟩
  | succ m ih =>
    obtain ⟨t, h1, h2⟩ := ih
    refine ⟨t ++ evH hr n (h + m), ?_, ?_⟩
    · rw [← Nat.add_assoc, evs, h1, List.append_assoc]
    · intro d hd
      rcases List.mem_append.mp hd with q | q
      · exact h2 d q
      · have := (evH_mem.mp q).2; omega
theorem ordL_take (od : Int → Int) {k n : Nat} (h : k ≤ n) : ordL od k = (ordL od n).take k := by
  simp [ordL, ← List.map_take, List.take_range, Nat.min_eq_left h]
/-- the deeds ahead of an hour are the first ones in the order -/
theorem pre_evs {hr ho so od : Int → Int} {n : Int} (hw : RowOK hr ho so od n) {k : Int} {h : Nat} (hk : 0 ≤ k ∧ k ≤ n) (hh : h ≤ 50) (h1 : ∀ d ∈ ordL od k.toNat, hr d < h) (h2 : k = n ∨ (h : Int) ≤ hr (od k)) : ordL od k.toNat = evs hr n.toNat h := by
  obtain ⟨t, e1, e2⟩ := evs_split hr n.toNat h (50 - h)
  rw [show h + (50 - h) = 50 by omega, ← hw.2.2] at e1
  have hlen : (ordL od n.toNat).length = n.toNat := ordL_len _ _
  have hA : (evs hr n.toNat h).length ≤ n.toNat := by
    have : (ordL od n.toNat).length = (evs hr n.toNat h).length + t.length := by rw [e1]; simp
    omega
  have hk2 : k.toNat = (evs hr n.toNat h).length := by
    rcases Nat.lt_trichotomy k.toNat (evs hr n.toNat h).length with q | q | q
    · exfalso
      rcases h2 with h2 | h2
      · omega
      · have g : (ordL od n.toNat)[k.toNat]? = some (od k) := by
          have : k.toNat < n.toNat := by omega
          simp [ordL, this, show ((k.toNat : Nat) : Int) = k by omega]
        rw [e1, List.getElem?_append_left q] at g
        have := (evs_mem.mp (List.mem_of_getElem? g)).2
        omega
    · exact q
    · exfalso
      have ht : t ≠ [] := by
        intro q2
        have : (ordL od n.toNat).length = (evs hr n.toNat h).length := by rw [e1, q2]; simp
        omega
      obtain ⟨a, t', rfl⟩ := List.exists_cons_of_ne_nil ht
      have hm : a ∈ ordL od k.toNat := by
        rw [ordL_take od (show k.toNat ≤ n.toNat by omega), e1]
        refine List.mem_of_getElem? (i := (evs hr n.toNat h).length) ?_
        rw [List.getElem?_take, if_pos q, List.getElem?_append_right (Nat.le_refl _)]
        simp
      have := h1 a hm
      have := e2 a List.mem_cons_self
      omega
  rw [ordL_take od (show k.toNat ≤ n.toNat by omega), e1, hk2]
  simp
/-- an hour in which one more deed, so loud, would be testified to -/
def qtB (z hr ho so : Int → Int) (n : Nat) (lo le si : Int) (h : Nat) : Bool := decide (fateOf lo (deepOf (z 2) (z 3) ((h : Int) - lnL z hr ho so (evs hr n (h + 1)) (z 1))) = 3 ∧ le ≤ deepOf (z 2) (z 3) ((h : Int) - lnL z hr ho so (evs hr n (h + 1)) (z 1))) && !lateL z hr ho so (evs hr n (h + 1)) (z 1) si (h : Int)
theorem p2_lt50 : ∀ n : Nat, n ≤ 50 → (2 : Int) ^ n ≤ 1125899906842624 := by decide +kernel
theorem j_oradd {a : Int} {n : Nat} (ha : 0 ≤ a ∧ a < 2 ^ n) (hn : n < 63) : Jl a ||| Jl (2 ^ n) = Jl (a + 2 ^ n) := by
  have := p2_lt n hn
  have h0 := p2_pos n
  rw [j_or (by omega) (by omega), orZ_add ha]
