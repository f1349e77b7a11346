/-! what always holds of the class's own cells -/
def TxOK (σ : Mem) : Prop := ((0 ≤ σ 16 3 ∧ σ 16 3 ≤ 39) ∧ (0 ≤ σ 17 3 ∧ σ 17 3 ≤ 39)) ∧ ((∀ k, 0 ≤ k → k < 39 → 0 ≤ σ 29 k ∧ σ 29 k < 256) ∧ (∀ k, 0 ≤ k → k < 39 → 0 ≤ σ 30 k ∧ σ 30 k < 256)) ∧ (∀ k, 0 ≤ k → k < 3 → σ 31 k = gr 0 k) ∧ (∀ k, 0 ≤ k → k < 3 → σ 32 k = gr 1 k)
/-- how many units a text has -/
def unP (f n : Int) : Int := if f = -1 then (n + 1) / 5 else 0
def SlOK (σ : Mem) : Prop := ∃ f, FFz 0 (σ 29) (σ 16 3) f ∧ σ 0 2 = unP f (σ 16 3) ∧ ∀ s : Nat, (s : Int) < σ 0 2 → σ (8 + s) 0 = σ 29 (s * 5) - 48 ∧ σ (8 + s) 1 = σ 29 (s * 5 + 1) - 48 ∧ σ (8 + s) 2 = σ 29 (s * 5 + 2) - 48 ∧ σ (8 + s) 3 = ixT 0 (σ 29 (s * 5 + 3))
def DdOK (σ : Mem) : Prop := ∃ f, FFz 1 (σ 30) (σ 17 3) f ∧ σ 2 4 = unP f (σ 17 3) ∧ RowOK (σ 33) (σ 34) (σ 35) (σ 36) (σ 2 4) ∧ ∀ d : Int, 0 ≤ d → d < σ 2 4 → σ 33 d = 10 * (σ 30 (d * 5) - 48) + (σ 30 (d * 5 + 1) - 48) ∧ σ 34 d = σ 30 (d * 5 + 2) - 48 ∧ σ 35 d = ixT 1 (σ 30 (d * 5 + 3))
def TlOK (σ : Mem) : Prop := (0 ≤ σ 4 3 ∧ σ 4 3 ≤ 8) ∧ ∀ k, 0 ≤ k → k < σ 4 3 → (0 ≤ σ 41 k ∧ σ 41 k < 8) ∧ (0 ≤ σ 42 k ∧ σ 42 k < 4) ∧ (0 ≤ σ 43 k ∧ σ 43 k < 9)
def ShOK (σ : Mem) : Prop := ∀ s : Nat, s < 4 → (σ (18 + s) 1 = 0 ∨ σ (18 + s) 1 = 1) ∧ (0 ≤ σ (18 + s) 2 ∧ σ (18 + s) 2 < 3) ∧ (0 ≤ σ (18 + s) 3 ∧ σ (18 + s) 3 ≤ 60)
def InvC (σ : Mem) : Prop := TxOK σ ∧ SlOK σ ∧ DdOK σ ∧ LawOK (σ 25) ∧ TlOK σ ∧ ShOK σ ∧ (0 ≤ σ 0 7 ∧ σ 0 7 ≤ 5)
abbrev SC : List Nat := [3, 5, 6, 7, 26, 27, 28, 37, 38, 39, 40, 44, 45, 46, 47, 48]
theorem FFz_un {t : Nat} {b : Int → Int} {n z z' : Int} (h : FFz t b n z) (h' : FFz t b n z') : z = z' := by
  rcases h with ⟨a1, a2, a3, a4⟩ | ⟨a1, a2⟩
  · rcases h' with ⟨c1, c2, c3, c4⟩ | ⟨c1, c2⟩
    · rcases Int.lt_trichotomy z z' with q | q | q
      · have := c4 z a1 q; rw [this] at a3; cases a3
      · exact q
      · have := a4 z' c1 q; rw [this] at c3; cases c3
    · have := c1 z a1 a2; rw [this] at a3; cases a3
  · rcases h' with ⟨c1, c2, c3, c4⟩ | ⟨c1, c2⟩
    · have := a1 z' c1 c2; rw [this] at c3; cases c3
    · rw [a2, c2]
theorem FFz_cg {t : Nat} {b b' : Int → Int} {n z : Int} (h : FFz t b n z) (e : ∀ k, 0 ≤ k → k < n → b' k = b k) : FFz t b' n z := by
  rcases h with ⟨a1, a2, a3, a4⟩ | ⟨a1, a2⟩
  · exact Or.inl ⟨a1, a2, by rw [e z a1 a2]; exact a3, fun j q1 q2 => by rw [e j q1 (by omega)]; exact a4 j q1 q2⟩
  · exact Or.inr ⟨fun j q1 q2 => by rw [e j q1 q2]; exact a1 j q1 q2, a2⟩
theorem FFz_fit {t : Nat} {b : Int → Int} {n : Int} (h : FFz t b n (-1)) : ∀ j, 0 ≤ j → j < n → fitB t (b j) j = true := by
  rcases h with ⟨a1, -⟩ | ⟨a1, a2⟩
  · omega
  · exact a1
theorem fit_0 {t : Nat} {c i : Int} (h : fitB t c i = true) (hi : i % 5 < 3) : 48 ≤ c ∧ c ≤ 48 + gr t (i % 5) := by
  rw [fitB, if_pos hi] at h; exact of_decide_eq_true h
theorem fit_3 {t : Nat} {c i : Int} (h : fitB t c i = true) (hi : i % 5 = 3) : 0 ≤ ixT t c := by
  rw [fitB, if_neg (by omega), if_pos hi] at h; exact of_decide_eq_true h
theorem ixT_in (t : Nat) (c : Int) : -1 ≤ ixT t c ∧ ixT t c ≤ 3 := by
  unfold ixT
  repeat (first | omega | split)
theorem unP_in {t : Nat} {b : Int → Int} {n f : Int} (hn : 0 ≤ n ∧ n ≤ 39) : 0 ≤ unP f n ∧ unP f n ≤ 8 := by
  unfold unP; split <;> omega
theorem unP_fit {t : Nat} {b : Int → Int} {n f : Int} (hf : FFz t b n f) (hn : 0 ≤ n ∧ n ≤ 39) {s : Int} (hs : 0 ≤ s) (h : s < unP f n) : f = -1 ∧ s * 5 + 3 < n ∧ (48 ≤ b (s * 5) ∧ b (s * 5) ≤ 48 + gr t 0) ∧ (48 ≤ b (s * 5 + 1) ∧ b (s * 5 + 1) ≤ 48 + gr t 1) ∧ (48 ≤ b (s * 5 + 2) ∧ b (s * 5 + 2) ≤ 48 + gr t 2) ∧ 0 ≤ ixT t (b (s * 5 + 3)) := by
  have hf1 : f = -1 := by
    unfold unP at h
    split at h
    · assumption
    · omega
  subst hf1
  have hq : s < (n + 1) / 5 := by simpa [unP] using h
  have hfit := FFz_fit hf
  have g0 := fit_0 (hfit (s * 5) (by omega) (by omega)) (by omega)
  have g1 := fit_0 (hfit (s * 5 + 1) (by omega) (by omega)) (by omega)
  have g2 := fit_0 (hfit (s * 5 + 2) (by omega) (by omega)) (by omega)
  have g3 := fit_3 (hfit (s * 5 + 3) (by omega) (by omega)) (by omega)
  rw [show s * 5 % 5 = 0 by omega] at g0
  rw [show (s * 5 + 1) % 5 = 1 by omega] at g1
  rw [show (s * 5 + 2) % 5 = 2 by omega] at g2
  exact ⟨rfl, by omega, g0, g1, g2, g3⟩
theorem InvC.ns {σ : Mem} (h : InvC σ) : 0 ≤ σ 0 2 ∧ σ 0 2 ≤ 8 := by
  obtain ⟨f, h1, h2, -⟩ := h.2.1
  rw [h2]; exact unP_in (t := 0) (b := σ 29) h.1.1.1
theorem InvC.row {σ : Mem} (h : InvC σ) : RowOK (σ 33) (σ 34) (σ 35) (σ 36) (σ 2 4) := by
  obtain ⟨f, -, -, h3, -⟩ := h.2.2.1
  exact h3
theorem InvC.bed {σ : Mem} (h : InvC σ) {s : Nat} (hs : (s : Int) < σ 0 2) : BedOK (σ (8 + s)) := by
  obtain ⟨f, h1, h2, h3⟩ := h.2.1
  obtain ⟨e0, e1, e2, e3⟩ := h3 s hs
  rw [h2] at hs
  obtain ⟨-, -, g0, g1, g2, g3⟩ := unP_fit h1 h.1.1.1 (s := s) (by omega) hs
  have k0 : gr 0 0 = 9 := rfl
  have k1 : gr 0 1 = 9 := rfl
  have k2 : gr 0 2 = 3 := rfl
  have k3 := ixT_in 0 (σ 29 (s * 5 + 3))
  rw [BedOK, e0, e1, e2, e3]
  omega
theorem InvC.same {σ σ' : Mem} (h : InvC σ) (hs : Same SC σ σ') : InvC σ' := by
  have r : ∀ i, i ∉ SC → σ' i = σ i := hs
  have bd : ∀ s : Nat, s < 8 → σ' (8 + s) = σ (8 + s) := fun s hs => r _ (by simp; omega)
  have sh : ∀ s : Nat, s < 4 → σ' (18 + s) = σ (18 + s) := fun s hs => r _ (by simp; omega)
  have hns := h.ns
  obtain ⟨h1, ⟨f, a1, a2, a3⟩, ⟨g, b1, b2, b3, b4⟩, h4, h5, h6, h7⟩ := h
  refine ⟨?_, ⟨f, ?_, ?_, ?_⟩, ⟨g, ?_, ?_, ?_, ?_⟩, ?_, ?_, ?_, ?_⟩
  · rw [TxOK, r 16 (by decide), r 17 (by decide), r 29 (by decide), r 30 (by decide), r 31 (by decide), r 32 (by decide)]; exact h1
  · rw [r 29 (by decide), r 16 (by decide)]; exact a1
  · rw [r 0 (by decide), r 16 (by decide)]; exact a2
  · intro s hs
    rw [r 0 (by decide)] at hs
    rw [bd s (by omega), r 29 (by decide)]; exact a3 s hs
  · rw [r 30 (by decide), r 17 (by decide)]; exact b1
  · rw [r 2 (by decide), r 17 (by decide)]; exact b2
  · rw [r 33 (by decide), r 34 (by decide), r 35 (by decide), r 36 (by decide), r 2 (by decide)]; exact b3
  · intro d q1 q2
    rw [r 2 (by decide)] at q2
    rw [r 33 (by decide), r 34 (by decide), r 35 (by decide), r 30 (by decide)]; exact b4 d q1 q2
  · rw [r 25 (by decide)]; exact h4
  · rw [TlOK, r 4 (by decide), r 41 (by decide), r 42 (by decide), r 43 (by decide)]; exact h5
  · intro s hs
    rw [sh s hs]; exact h6 s hs
  · rw [r 0 (by decide)]; exact h7
theorem cls_bed {s : Int} (h : 0 ≤ s ∧ s < 8) : clsOf (8 + s.toNat) = 4 := by
  have k : ∀ n : Nat, n < 8 → clsOf (8 + n) = 4 := by decide
  exact k _ (by omega)
def sumN (f : Nat → Int) : Nat → Int
  | 0 => 0
  | n + 1 => sumN f n + f n
theorem sumN_cg {f g : Nat → Int} {n : Nat} (h : ∀ k, k < n → f k = g k) : sumN f n = sumN g n := by
  induction n with
  | zero => rfl
  | succ n ih => simp only [sumN]; rw [ih (fun k hk => h k (by omega)), h n (by omega)]
theorem sumN_in {f : Nat → Int} {n : Nat} {m : Int} (h : ∀ k, k < n → 0 ≤ f k ∧ f k ≤ m) : 0 ≤ sumN f n ∧ sumN f n ≤ n * m := by
  induction n with
  | zero => simp [sumN]
  | succ n ih =>
    have h1 := ih (fun k hk => h k (by omega))
    have h2 := h n (by omega)
    simp only [sumN]
    have : ((n + 1 : Nat) : Int) * m = n * m + m := by
      rw [Int.natCast_succ, Int.add_mul, Int.one_mul]
    omega
