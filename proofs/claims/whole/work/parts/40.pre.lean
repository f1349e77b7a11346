/-- the first s sleepers all hear the deed awake, or are woken by it -/
def allS (σ : Mem) : Nat → Nat → Bool
  | 0, _ => true
  | s + 1, d => allS σ s d && decide (cFT σ s (d : Int) = 1 ∨ cFT σ s (d : Int) = 2)
/-- so many would testify to one more deed in an hour -/
def qtN (σ : Mem) (house sound : Int) (h : Nat) : Int := cnt (fun s : Nat => qtB (σ (8 + s)) (σ 33) (σ 34) (σ 35) (σ 2 4).toNat (loudOf (σ (8 + s) 0) house sound) (σ 25 0) (σ 25 1) h) (σ 0 2).toNat
def qtQ (σ : Mem) (house sound : Int) (h : Nat) : Bool := decide (qtN σ house sound h < σ 25 2)
theorem cnt_0 {p : Nat → Bool} {n : Nat} (h : ∀ k, k < n → p k = false) : cnt p n = 0 := by
  induction n with
  | zero => rfl
  | succ n ih => simp only [cnt]; rw [ih (fun k hk => h k (by omega)), h n (by omega)]; rfl
theorem nth_0 {p : Nat → Bool} {n k : Nat} (hk : k < n) (h : ∀ j, j < k → p j = false) (hp : p k = true) : nthB p 0 n = k := by
  have := nthB_late hp (cnt_0 h) (n - (k + 1))
  rwa [show k + 1 + (n - (k + 1)) = n by omega] at this
theorem nth_none0 {p : Nat → Bool} {n : Nat} (h : ∀ j, j < n → p j = false) : nthB p 0 n = -1 :=
  nthB_none (fun k hk q => by rw [h k hk] at q; exact absurd q.1 (by decide))
