/-! pure words of the document: bits, figures, depth, sound, fate -/
theorem R_nmi {Θ : Th} {Γ : Gm} {pc : Nat} {L : List (Nat × Value)} {st : List Value} {σ : Mem} {e : Int} (k : ∀ x, x = e → Run Θ Γ pc L (.int (I x) :: st) σ) : Run Θ Γ pc L (.int (I e) :: st) σ := k e rfl
theorem R_nml {Θ : Th} {Γ : Gm} {pc : Nat} {L : List (Nat × Value)} {st : List Value} {σ : Mem} {e : Int} (k : ∀ x, x = e → Run Θ Γ pc L (.long (Jl x) :: st) σ) : Run Θ Γ pc L (.long (Jl e) :: st) σ := k e rfl
theorem R_nms {Θ : Th} {Γ : Gm} {pc : Nat} {L : List (Nat × Value)} {st : List Value} {σ : Mem} (k : ∀ σ', σ' = σ → Run Θ Γ pc L st σ') : Run Θ Γ pc L st σ := k σ rfl
def pc8 (a : Int) : Int := a % 2 + a / 2 % 2 + a / 4 % 2 + a / 8 % 2 + a / 16 % 2 + a / 32 % 2 + a / 64 % 2 + a / 128 % 2
def uz (a b : Int) : Int := (((I a).toUInt32 >>> ((I b).toUInt32 &&& Int32.toUInt32 31)).toInt32).toInt
def az (a b : Int) : Int := (I a &&& I b).toInt
theorem pc8_bc : ∀ n : Nat, n < 256 → (let x1 : Int := n - az (uz n 1) 1431655765; let x2 := az x1 858993459 + az (uz x1 2) 858993459; let x3 := az (x2 + uz x2 4) 252645135; let x4 := x3 + uz x3 8; let x5 := x4 + uz x4 16; az x5 63) = pc8 n := by decide +kernel
def fillM (σ : Mem) (i : Nat) (n v : Int) : Mem := fun j x => if j = i ∧ 0 ≤ x ∧ x < n then v else σ j x
theorem fill_0 (σ : Mem) (i : Nat) (v : Int) : fillM σ i 0 v = σ := by
  funext j x
  unfold fillM
  rw [if_neg (by omega)]
theorem fill_up (σ : Mem) (i : Nat) {k v : Int} (hk : 0 ≤ k) : up (fillM σ i k v) i k v = fillM σ i (k + 1) v := by
  funext j x
  unfold up fillM
  by_cases h1 : j = i
  · by_cases h2 : x = k
    · rw [if_pos ⟨h1, h2⟩, if_pos ⟨h1, by omega, by omega⟩]
    · rw [if_neg (fun q => h2 q.2)]
      by_cases h3 : 0 ≤ x ∧ x < k
      · rw [if_pos ⟨h1, h3⟩, if_pos ⟨h1, h3.1, by omega⟩]
      · rw [if_neg (fun q => h3 q.2), if_neg (fun q => h3 ⟨q.2.1, by omega⟩)]
  · rw [if_neg (fun q => h1 q.1), if_neg (fun q => h1 q.1), if_neg (fun q => h1 q.1)]
def gr (t : Nat) (k : Int) : Int := ([[9, 9, 3], [4, 9, 9]].getD t []).getD k.toNat 0
/-- the byte c may stand at place i of a text t -/
def fitB (t : Nat) (c i : Int) : Bool := if i % 5 < 3 then decide (48 ≤ c ∧ c ≤ 48 + gr t (i % 5)) else if i % 5 = 3 then decide (0 ≤ ixT t c) else decide (c = 59)
/-- z is the first fault of n bytes b -/
def FFz (t : Nat) (b : Int → Int) (n z : Int) : Prop := (0 ≤ z ∧ z < n ∧ fitB t (b z) z = false ∧ ∀ j, 0 ≤ j → j < z → fitB t (b j) j = true) ∨ ((∀ j, 0 ≤ j → j < n → fitB t (b j) j = true) ∧ z = if n = 0 ∨ n % 5 = 4 then -1 else n)
theorem gr_in {t : Nat} (ht : t < 2) {k : Int} (hk : 0 ≤ k ∧ k < 3) : 3 ≤ gr t k ∧ gr t k ≤ 9 := by
  have q : ∀ t : Nat, t < 2 → ∀ n : Nat, n < 3 → 3 ≤ gr t n ∧ gr t n ≤ 9 := by decide
  have := q t ht k.toNat (by omega)
  rwa [show ((k.toNat : Nat) : Int) = k by omega] at this
theorem sv0_in {x : Int} (hx : 0 ≤ x ∧ x < 6) : 1 ≤ sv 0 x ∧ sv 0 x ≤ 6 := by
  have q : ∀ n : Nat, n < 6 → 1 ≤ sv 0 n ∧ sv 0 n ≤ 6 := by decide
  have := q x.toNat (by omega)
  rwa [show ((x.toNat : Nat) : Int) = x by omega] at this
theorem sv1_in {x : Int} (hx : 0 ≤ x ∧ x < 4) : 3 ≤ sv 1 x ∧ sv 1 x ≤ 9 := by
  have q : ∀ n : Nat, n < 4 → 3 ≤ sv 1 n ∧ sv 1 n ≤ 9 := by decide
  have := q x.toNat (by omega)
  rwa [show ((x.toNat : Nat) : Int) = x by omega] at this
def deepOf (su kd h : Int) : Int := if h < 0 ∨ kd = 3 then 0 else if kd = 0 then sv 0 (h % 6) + su + 1 else if kd = 1 then max 1 (sv 0 (h % 6) + su - 2) else min 3 (sv 0 (h % 6) + su)
def loudOf (ho fr so : Int) : Int := max 0 (sv 1 so - (if 0 ≤ ho - fr then ho - fr else -(ho - fr)))
def fateOf (lo de : Int) : Int := if lo = 0 then 0 else if de = 0 then 1 else if de + 3 ≤ lo then 2 else 3
theorem deepOf_in {su kd h : Int} (hs : 0 ≤ su ∧ su ≤ 3) : 0 ≤ deepOf su kd h ∧ deepOf su kd h ≤ 10 := by
  unfold deepOf
  have := sv0_in (x := h % 6) (by omega)
  split
  · omega
  · split
    · omega
    · split <;> omega
theorem loudOf_in {ho fr so : Int} (hs : 0 ≤ so ∧ so < 4) : 0 ≤ loudOf ho fr so ∧ loudOf ho fr so ≤ 9 := by
  unfold loudOf
  have := sv1_in hs
  split <;> omega
theorem fateOf_in (lo de : Int) : 0 ≤ fateOf lo de ∧ fateOf lo de ≤ 3 := by
  unfold fateOf
  repeat (first | omega | split)
theorem N_tald {Θ : Th} {Γ : Gm} {Y : Mt} {pc : Nat} {L : List (Nat × Value)} {st : List Value} {σ : Mem} (hB : Base Θ Γ Y) {t n : Nat} {x : Int} (ht : t < 4) (hn : slen t = n) (hx : 0 ≤ x ∧ x < n) (hd : decode Y.2.1 pc = .ok (.iaload, 1)) (kk : Run Θ Γ (pc + 1) L (.int (I (sv t x)) :: st) σ) : Run Θ Γ pc L (.int (I x) :: .ref (Th.st Θ t) :: st) σ := by
  subst hn
  exact R_tald hB ht hx hd kk
