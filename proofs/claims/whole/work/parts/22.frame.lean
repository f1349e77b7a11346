/-! what a method leaves as it was; the night's methods in words of the memory -/
def Same (S : List Nat) (σ σ' : Mem) : Prop := ∀ i, i ∉ S → σ' i = σ i
theorem Same.rf {S : List Nat} {σ : Mem} : Same S σ σ := fun _ _ => rfl
theorem Same.tr {S S' T : List Nat} {a b c : Mem} (h1 : Same S a b) (h2 : Same S' b c) (hs : ∀ i, i ∈ S → i ∈ T) (hs' : ∀ i, i ∈ S' → i ∈ T) : Same T a c := fun i hi => by
  rw [h2 i (fun q => hi (hs' i q)), h1 i (fun q => hi (hs i q))]
theorem Same.up {S : List Nat} {σ : Mem} {i : Nat} {k v : Int} (hi : i ∈ S) : Same S σ (up σ i k v) := fun j hj => by
  funext x
  exact up_i (fun q => hj (q ▸ hi))
theorem Same.fill {S : List Nat} {σ : Mem} {i : Nat} {n v : Int} (hi : i ∈ S) : Same S σ (fillM σ i n v) := fun j hj => by
  funext x
  unfold fillM
  rw [if_neg (fun q : j = i ∧ 0 ≤ x ∧ x < n => hj (q.1 ▸ hi))]
theorem Same.wide {S T : List Nat} {σ σ' : Mem} (h : Same S σ σ') (hs : ∀ i, i ∈ S → i ∈ T) : Same T σ σ' := fun i hi => h i (fun q => hi (hs i q))
theorem up_row {σ : Mem} {i j : Nat} {k v : Int} (h : j ≠ i) : up σ i k v j = σ j := by
  funext x
  exact up_i h
theorem fill_row {σ : Mem} {i j : Nat} {n v : Int} (h : j ≠ i) : fillM σ i n v j = σ j := by
  funext x
  unfold fillM
  rw [if_neg (fun q => h q.1)]
theorem cls4 {o : Nat} (ho : clsOf o = 4) : 7 ≤ o ∧ o ≤ 15 := by
  have h := clsOf_lt ho (by decide)
  have k : ∀ o : Nat, o < 22 → clsOf o = 4 → 7 ≤ o ∧ o ≤ 15 := by decide
  exact k o h ho
def MeetQ (σ σ' : Mem) (z hr ho so : Int → Int) (d : Int) : Prop := Same [5, 44, 45, 46, 47] σ σ' ∧ (∀ k, k ≠ d → σ' 44 k = σ 44 k ∧ σ' 45 k = σ 45 k ∧ σ' 46 k = σ 46 k) ∧ (σ' 44 d = ldw z ho so d ∧ σ' 45 d = dpw z hr d (σ 5 7) ∧ σ' 46 d = ftw z hr ho so d (σ 5 7)) ∧ σ' 5 7 = lnw z hr ho so d (σ 5 7) ∧
  σ' 5 4 = σ 5 4 + (if ftw z hr ho so d (σ 5 7) = 3 then 1 else 0) ∧ σ' 5 5 = σ 5 5 + (if ftw z hr ho so d (σ 5 7) = 2 then 1 else 0) ∧ σ' 5 6 = σ 5 6 ∧ σ' 5 8 = (if ftw z hr ho so d (σ 5 7) = 2 then orZ (σ 5 8) (2 ^ (hr d).toNat) else σ 5 8) ∧ ∀ s, σ' 47 s = σ 47 s + (if ftw z hr ho so d (σ 5 7) = 3 ∧ s = so d then 1 else 0)
def LieQ (σ σ' : Mem) (b : Int) : Prop := Same [5, 47] σ σ' ∧ σ' 5 7 = b ∧ σ' 5 8 = 0 ∧ σ' 5 4 = 0 ∧ σ' 5 5 = 0 ∧ σ' 5 6 = σ 5 6 ∧ ∀ s, 0 ≤ s → s < 4 → σ' 47 s = 0
