/-! numbers as Ints: I z, Jl z are the machine's numbers of z -/
abbrev Mem : Type := Nat → Int → Int
def I (z : Int) : Int32 := Int32.ofInt z
def Jl (z : Int) : Int64 := Int64.ofInt z
def up (σ : Mem) (i : Nat) (k v : Int) : Mem := fun i' k' => if i' = i ∧ k' = k then v else σ i' k'
abbrev rng (a : Int) : Prop := -2147483648 ≤ a ∧ a < 2147483648
abbrev rngL (a : Int) : Prop := -9223372036854775808 ≤ a ∧ a < 9223372036854775808
theorem I_toInt {a : Int} (h : rng a) : (I a).toInt = a := Int32.toInt_ofInt_of_le h.1 h.2
theorem Jl_toInt {a : Int} (h : rngL a) : (Jl a).toInt = a := Int64.toInt_ofInt_of_le h.1 h.2
theorem I_add (a b : Int) : I a + I b = I (a + b) := (Int32.ofInt_add a b).symm
theorem I_sub (a b : Int) : I a - I b = I (a - b) := (Int32.ofInt_sub a b).symm
theorem I_mul (a b : Int) : I a * I b = I (a * b) := (Int32.ofInt_mul a b).symm
theorem Jl_add (a b : Int) : Jl a + Jl b = Jl (a + b) := (Int64.ofInt_add a b).symm
theorem Jl_sub (a b : Int) : Jl a - Jl b = Jl (a - b) := (Int64.ofInt_sub a b).symm
theorem Jl_mul (a b : Int) : Jl a * Jl b = Jl (a * b) := (Int64.ofInt_mul a b).symm
theorem I_lt {a b : Int} (ha : rng a) (hb : rng b) : I a < I b ↔ a < b := by rw [Int32.lt_iff_toInt_lt, I_toInt ha, I_toInt hb]
theorem I_le {a b : Int} (ha : rng a) (hb : rng b) : I a ≤ I b ↔ a ≤ b := by rw [Int32.le_iff_toInt_le, I_toInt ha, I_toInt hb]
theorem I_inj {a b : Int} (ha : rng a) (hb : rng b) : I a = I b ↔ a = b := by rw [← Int32.toInt_inj, I_toInt ha, I_toInt hb]
theorem I_0 : I 0 = 0 := rfl
theorem I_of (x : Int32) : I x.toInt = x := Int32.ofInt_toInt x
theorem I_rng (x : Int32) : rng x.toInt := ⟨Int32.le_toInt x, Int32.toInt_lt x⟩
theorem I_vin {x : Int} {n : Nat} (hn : n < 2147483648) (h : 0 ≤ x ∧ x < n) : vp_in (I x) n := by
  rw [vp_in_iff, I_toInt (by omega)]; exact h
theorem I_cl {x : Int} (h : 0 ≤ x ∧ x < 2147483648) : (((I x).toNatClampNeg : Nat) : Int) = x := by
  have : (I x).toNatClampNeg = (I x).toInt.toNat := rfl
  rw [this, I_toInt (by omega)]; omega
theorem up_s (σ : Mem) (i : Nat) (k v : Int) : up σ i k v i k = v := by simp [up]
theorem up_n {σ : Mem} {i i' : Nat} {k k' v : Int} (h : ¬ (i' = i ∧ k' = k)) : up σ i k v i' k' = σ i' k' := by simp [up, h]
theorem up_i {σ : Mem} {i i' : Nat} {k k' v : Int} (h : i' ≠ i) : up σ i k v i' k' = σ i' k' := by simp [up, h]

/-! the shape of the heap: 22 objects (their classes), 56 arrays (their kinds and lengths) -/
abbrev classes : List vw_C := [(RX0, TX0, 5), (RX1, TX1, 4), (RX2, TX2, 9), (RX3, TX3, 4), (RX4, TX4, 4), (RX5, TX5, 4), (RX6, TX6, 4), (RX7, TX7, 15), (RX8, TX8, 34)]
def nfl (c : Nat) : Nat := [5, 4, 9, 4, 4, 4, 4, 15, 34].getD c 0
def clsOf (i : Nat) : Nat := [7, 8, 0, 0, 5, 2, 1, 4, 4, 4, 4, 4, 4, 4, 4, 4, 6, 6, 3, 3, 3, 3].getD i 99
/-- 0 int, 1 long, 2 boolean, 3 Text, 4 Sleeper, 5 Sheet; the length -/
def arrOf (i : Nat) : Nat × Nat := if i < 22 then (9, 0) else [(3, 2), (4, 8), (5, 4), (0, 3), (1, 8), (0, 9), (1, 9), (0, 39), (0, 39), (0, 3), (0, 3), (0, 8), (0, 8), (0, 8), (0, 8), (0, 8), (0, 8), (0, 8), (0, 8), (0, 8), (0, 8), (0, 8), (0, 8), (0, 8), (0, 8), (0, 4), (0, 8), (0, 60), (0, 60), (0, 60), (0, 60),
  (0, 2), (0, 78), (0, 9), (0, 9), (0, 9), (0, 9), (0, 9), (0, 9), (0, 9), (0, 400), (2, 400), (0, 72), (2, 72), (0, 8), (0, 2), (0, 8), (0, 8), (0, 8), (0, 64), (0, 8), (2, 4), (0, 4), (0, 4), (0, 240), (0, 60)].getD (i - 22) (9, 0)
/-- a field's kind by its class: 0 int, 1 long, 2 reference, 3 boolean, 4 a text -/
def fty (c k : Nat) : Nat := ([[2, 2, 2, 2, 0], [2, 0, 0, 0], [2, 2, 2, 2, 0, 0, 0, 0, 1], [2, 3, 0, 0], [0, 0, 0, 0], [2, 2, 2, 0], [2, 2, 4, 0], [2, 2, 0, 2, 2, 2, 2, 0, 2, 2, 2, 2, 2, 2, 2],
  [2, 2, 0, 2, 2, 2, 2, 0, 2, 2, 2, 0, 0, 0, 0, 0, 2, 2, 2, 2, 2, 2, 0, 2, 2, 2, 2, 2, 2, 2, 2, 2, 2, 0]].getD c []).getD k 9
/-- which cell a reference field holds -/
def rid (i k : Nat) : Nat := if i = 0 then [22, 23, 0, 2, 25, 4, 24, 0, 7, 3, 5, 6, 26, 27, 28].getD k 0 else if i = 1 then [53, 54, 0, 55, 56, 57, 58, 0, 59, 60, 61, 0, 0, 0, 0, 0, 62, 63, 64, 65, 66, 67, 0, 68, 69, 70, 71, 72, 73, 74, 75, 76, 77, 0].getD k 0
  else if i = 2 then 33 + k else if i = 3 then 37 + k else if i = 4 then 41 + k else if i = 5 then 44 + k else if i = 6 then 48 else if i < 18 then (if k = 0 then i + 13 else i + 15) else i + 31
/-- the first cell of an array of references: the others follow -/
def rba (i : Nat) : Nat := if i = 22 then 16 else if i = 23 then 8 else 18
/-- where all lies: the launch, classes, array classes, cells, static arrays, texts and their bytes -/
abbrev Th : Type := Launch × va_G × (Nat → ClassId) × (Nat → Nat) × (Nat → Nat) × (Nat → Nat) × (Nat → Nat)
def Th.l (Θ : Th) : Launch := Θ.1
def Th.D (Θ : Th) : va_G := Θ.2.1
def Th.ca (Θ : Th) : Nat → ClassId := Θ.2.2.1
def Th.r (Θ : Th) : Nat → Nat := Θ.2.2.2.1
def Th.st (Θ : Th) : Nat → Nat := Θ.2.2.2.2.1
def Th.tx (Θ : Th) : Nat → Nat := Θ.2.2.2.2.2.1
def Th.by (Θ : Th) : Nat → Nat := Θ.2.2.2.2.2.2
def fv (Θ : Th) (σ : Mem) (i k : Nat) : Value := match fty (clsOf i) k with
  | 0 => .int (I (σ i k))
  | 1 => .long (Jl (σ i k))
  | 3 => .int (I (σ i k))
  | 4 => .ref (Th.tx Θ (i - 16))
  | _ => .ref (Th.r Θ (rid i k))
def av (Θ : Th) (σ : Mem) (i : Nat) : (Nat → Int32) ⊕ (Nat → Int64) ⊕ (Nat → UInt32) ⊕ (Nat → UInt64) ⊕ (Nat → Option Nat) := match (arrOf i).1 with
  | 0 => .inl (fun j => I (σ i j))
  | 1 => .inr (.inl (fun j => Jl (σ i j)))
  | 2 => .inl (fun j => I (σ i j))
  | _ => .inr (.inr (.inr (.inr (fun j => some (Th.r Θ (rba i + j))))))
def cellE (Θ : Th) (σ : Mem) (i : Nat) : va_E := if i < 22 then .inr (clsOf i, (List.range (nfl (clsOf i))).map (fv Θ σ i)) else .inl (Th.ca Θ (arrOf i).1, (arrOf i).2, av Θ σ i)
def cells (Θ : Th) (σ : Mem) : va_W := (List.range 78).map (fun i => (Th.r Θ i, cellE Θ σ i))
theorem cells_get (Θ : Th) (σ : Mem) {i : Nat} (h : i < 78) : (cells Θ σ)[i]? = some (Th.r Θ i, cellE Θ σ i) := by
  simp [cells, List.getElem?_map, List.getElem?_range h]
theorem cells_inv {Θ : Th} {σ : Mem} {i : Nat} {q : Nat × va_E} (h : (cells Θ σ)[i]? = some q) : i < 78 ∧ q = (Th.r Θ i, cellE Θ σ i) := by
  have hi : i < 78 := by
    have := (List.getElem?_eq_some_iff.mp h).1
    simpa [cells] using this
  refine ⟨hi, ?_⟩
  rw [cells_get Θ σ hi] at h
  exact (Option.some.inj h).symm
theorem clsOf_lt {i c : Nat} (h : clsOf i = c) (hc : c < 9) : i < 22 := by
  rcases Nat.lt_or_ge i 22 with h1 | h1
  · exact h1
  · exfalso
    have : clsOf i = 99 := by
      unfold clsOf
      rw [List.getD_eq_getElem?_getD, List.getElem?_eq_none (by simpa using h1)]; rfl
    omega
theorem arrOf_ge {i t n : Nat} (h : arrOf i = (t, n)) (ht : t < 9) : 22 ≤ i ∧ i < 78 := by
  rcases Nat.lt_or_ge i 22 with h1 | h1
  · exfalso; simp [arrOf, h1] at h; omega
  · rcases Nat.lt_or_ge i 78 with h2 | h2
    · exact ⟨h1, h2⟩
    · exfalso
      have h3 : ¬ i < 22 := by omega
      unfold arrOf at h
      rw [if_neg h3, List.getD_eq_getElem?_getD, List.getElem?_eq_none (by simp; omega)] at h
      simp at h; omega
theorem cellE_o {Θ : Th} {σ : Mem} {i c : Nat} (h : clsOf i = c) (hc : c < 9) : cellE Θ σ i = .inr (c, (List.range (nfl c)).map (fv Θ σ i)) := by
  have := clsOf_lt h hc
  simp [cellE, this, h]
theorem cellE_a {Θ : Th} {σ : Mem} {i t n : Nat} (h : arrOf i = (t, n)) (ht : t < 9) : cellE Θ σ i = .inl (Th.ca Θ t, n, av Θ σ i) := by
  have := arrOf_ge h ht
  have h1 : ¬ i < 22 := by omega
  simp [cellE, h1, h]
theorem fv_up_o (Θ : Th) (σ : Mem) (i k i' k' : Nat) (v : Int) (h : ¬ (i' = i ∧ k' = k)) : fv Θ (up σ i k v) i' k' = fv Θ σ i' k' := by
  have : up σ i k v i' k' = σ i' k' := up_n (fun q => h ⟨q.1, by omega⟩)
  simp only [fv, this]
/-- one field of an object is written -/
theorem cells_put {Θ : Th} {σ : Mem} {i k c : Nat} {v : Int} (hc : clsOf i = c) (h9 : c < 9) (hk : k < nfl c) : (cells Θ σ).set i (Th.r Θ i, .inr (c, ((List.range (nfl c)).map (fv Θ σ i)).set k (fv Θ (up σ i k v) i k))) = cells Θ (up σ i k v) := by
  have hi := clsOf_lt hc h9
  apply List.ext_getElem?
  intro j
  rw [List.getElem?_set]
  by_cases hj : i = j
  · subst hj
    rw [if_pos rfl, if_pos (by simp [cells]; omega), cells_get Θ _ (by omega), cellE_o hc h9]
    congr 4
    apply List.ext_getElem?
    intro n
    rw [List.getElem?_set]
    by_cases hn : k = n
    · subst hn
      rw [if_pos rfl, if_pos (by simpa using hk)]
      simp [List.getElem?_map, List.getElem?_range hk]
    · rw [if_neg hn]
      simp only [List.getElem?_map]
      rcases Nat.lt_or_ge n (nfl c) with h1 | h1
      · rw [List.getElem?_range h1]
        simp only [Option.map_some]
        rw [fv_up_o Θ σ i k i n v (by omega)]
      · rw [List.getElem?_eq_none (by simpa using h1)]
        rfl
  · rw [if_neg hj]
    rcases Nat.lt_or_ge j 78 with h1 | h1
    · rw [cells_get Θ _ h1, cells_get Θ _ h1]
      congr 2
      have e1 : ∀ n, fv Θ (up σ i k v) j n = fv Θ σ j n := fun n => fv_up_o Θ σ i k j n v (by omega)
      have e2 : ∀ n : Int, up σ i k v j n = σ j n := fun n => up_i (by omega)
      simp only [cellE, av, e2]
      rw [show fv Θ (up σ i k v) j = fv Θ σ j from funext e1]
    · rw [List.getElem?_eq_none (by simpa [cells] using h1), List.getElem?_eq_none (by simpa [cells] using h1)]
/-- one item of an array is written -/
theorem cells_ast {Θ : Th} {σ : Mem} {i t n : Nat} {k v : Int} (ha : arrOf i = (t, n)) (h9 : t < 9) : (cells Θ σ).set i (Th.r Θ i, .inl (Th.ca Θ t, n, av Θ (up σ i k v) i)) = cells Θ (up σ i k v) := by
  have hi := arrOf_ge ha h9
  apply List.ext_getElem?
  intro j
  rw [List.getElem?_set]
  by_cases hj : i = j
  · subst hj
    rw [if_pos rfl, if_pos (by simp [cells]; omega), cells_get Θ _ (by omega), cellE_a ha h9]
  · rw [if_neg hj]
    rcases Nat.lt_or_ge j 78 with h1 | h1
    · rw [cells_get Θ _ h1, cells_get Θ _ h1]
      congr 2
      have e2 : ∀ n : Int, up σ i k v j n = σ j n := fun n => up_i (by omega)
      have e1 : ∀ n, fv Θ (up σ i k v) j n = fv Θ σ j n := fun n => by simp only [fv, e2]
      simp only [cellE, av, e2]
      rw [show fv Θ (up σ i k v) j = fv Θ σ j from funext e1]
    · rw [List.getElem?_eq_none (by simpa [cells] using h1), List.getElem?_eq_none (by simpa [cells] using h1)]
