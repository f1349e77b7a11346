/-! one call on both sides: the bond again -/
def JJ (σ : Mem) : Prop := InvC σ ∧ Bond σ
theorem Bond.sc {σ σ' : Mem} (h : Bond σ) (r : Same SC σ σ') : Bond σ' := by
  obtain ⟨a, b, c, d⟩ := h
  refine ⟨?_, ?_, fun s hs => ?_, ?_⟩
  · unfold Rel MtOK at *
    rw [r 53 (by decide), r 54 (by decide), r 16 (by decide), r 17 (by decide), r 29 (by decide), r 30 (by decide), r 25 (by decide), r 1 (by decide)]; exact a
  · unfold TaR at *
    rw [r 1 (by decide), r 4 (by decide), r 41 (by decide), r 42 (by decide), r 43 (by decide), r 68 (by decide), r 69 (by decide), r 70 (by decide)]; exact b
  · rw [r 73 (by decide), r 74 (by decide), r 75 (by decide), r 76 (by decide), r (18 + s) (by simp; omega), r (49 + s) (by simp; omega)]; exact c s hs
  · rw [r 1 (by decide), r 0 (by decide)]; exact d
theorem JJ.sc {σ σ' : Mem} (h : JJ σ) (r : Same SC σ σ') : JJ σ' := ⟨h.1.same r, h.2.sc r⟩
theorem JJ.fm {σ σ' : Mem} (h : JJ σ) (f : FrM σ σ') : JJ σ' := ⟨h.1.mm f.1, h.2.mm f⟩
theorem JJ.sh {σ : Mem} (h : JJ σ) : ∀ s, 0 ≤ s → s < 4 → (σ 73 s = 0 ∨ σ 73 s = 1) ∧ (0 ≤ σ 74 s ∧ σ 74 s < 3) ∧ (0 ≤ σ 75 s ∧ σ 75 s ≤ 60) := fun s h0 h1 => by
  obtain ⟨n, rfl⟩ := Int.eq_ofNat_of_zero_le h0
  have a := h.1.2.2.2.2.2.1 n (by omega)
  obtain ⟨b1, b2, b3, -⟩ := h.2.2.2.1 n (by omega)
  rw [b1, b2, b3]
  omega
theorem JJ.tn {σ : Mem} (h : JJ σ) : 0 ≤ σ 1 22 ∧ σ 1 22 ≤ 8 := (TaR.ok h.1 h.2.2.1).1
theorem Bond.txt {σ σ2 : Mem} (hB : Bond σ) (r : ∀ i, i ∈ [1, 4, 18, 19, 20, 21, 25, 41, 42, 43, 49, 50, 51, 52, 68, 69, 70, 73, 74, 75, 76] → σ2 i = σ i) (h7 : σ2 0 7 = σ 0 7) (hM : MtOK σ2) (h1 : σ2 53 0 = σ2 16 3 ∧ σ2 53 1 = σ2 17 3) (h2 : (∀ k, 0 ≤ k → k < σ2 16 3 → σ2 54 k = σ2 29 k) ∧ (∀ k, 0 ≤ k → k < σ2 17 3 → σ2 54 (39 + k) = σ2 30 k)) : Bond σ2 := by
  obtain ⟨a, b, c, d⟩ := hB
  refine ⟨⟨hM, h1, h2, ?_⟩, ?_, fun s hs => ?_, ?_⟩
  · rw [r 1 (by decide), r 25 (by decide)]; exact a.2.2.2
  · unfold TaR at *
    rw [r 1 (by decide), r 4 (by decide), r 41 (by decide), r 42 (by decide), r 43 (by decide), r 68 (by decide), r 69 (by decide), r 70 (by decide)]; exact b
  · rw [r 73 (by decide), r 74 (by decide), r 75 (by decide), r 76 (by decide), r (18 + s) (by simp; omega), r (49 + s) (by simp; omega)]; exact c s hs
  · rw [r 1 (by decide), h7]; exact d
theorem st_text {σ σ1 σ2 : Mem} {t : Nat} (ht : t < 2) {n : Int} {b : Int → Int} (hJ : JJ σ) (q : TextQ σ σ1 t n b) (hn : 0 ≤ n ∧ n ≤ 39) (e : ∀ i, i ≠ 53 → i ≠ 54 → σ2 i = σ1 i) (e53 : ∀ k, σ2 53 k = if k = (t : Int) then n else σ1 53 k) (e54 : ∀ k, 0 ≤ k → k < n → σ2 54 (39 * (t : Int) + k) = b k) (eo : ∀ k, 0 ≤ k → k < 39 → σ2 54 (39 * (1 - (t : Int)) + k) = σ1 54 (39 * (1 - (t : Int)) + k)) (er : ∀ k, 0 ≤ k → k < 78 → 0 ≤ σ2 54 k ∧ σ2 54 k < 256) : JJ σ2 := by
  obtain ⟨q1, q2, q3, q4, q5, q6, q7⟩ := q
  obtain ⟨⟨hM, hs, hb, -⟩, -⟩ := id hJ.2
  have k53 : σ1 53 = σ 53 := q2 53 (by decide)
  have k54 : σ1 54 = σ 54 := q2 54 (by decide)
  refine ⟨q1.all (fun i hi => e i (fun w => by rw [w] at hi; revert hi; decide) (fun w => by rw [w] at hi; revert hi; decide)), hJ.2.txt (fun i hi => ?_) ?_ ⟨?_, er⟩ ?_ ?_⟩
  · rw [e i (fun w => by rw [w] at hi; revert hi; decide) (fun w => by rw [w] at hi; revert hi; decide)]
    refine q2 i (fun w => ?_)
    simp only [List.mem_cons, List.not_mem_nil, or_false] at hi w
    omega
  · rw [e 0 (by decide) (by decide)]; exact q3
  · rw [e53 0, e53 1, k53]
    have := hM.1
    constructor <;> split <;> omega
  · rw [e53 0, e53 1, k53, e 16 (by decide) (by decide), e 17 (by decide) (by decide)]
    rcases (show t = 0 ∨ t = 1 by omega) with rfl | rfl
    · refine ⟨by rw [if_pos (by decide)]; exact q4.symm, by rw [if_neg (by decide)]; exact hs.2.trans q6.symm⟩
    · refine ⟨by rw [if_neg (by decide)]; exact hs.1.trans q6.symm, by rw [if_pos (by decide)]; exact q4.symm⟩
  · rw [e 16 (by decide) (by decide), e 17 (by decide) (by decide), e 29 (by decide) (by decide), e 30 (by decide) (by decide)]
    rcases (show t = 0 ∨ t = 1 by omega) with rfl | rfl
    · have q4 : σ1 16 3 = n := q4
      have q5 : σ1 29 = b := q5
      have q6 : σ1 17 3 = σ 17 3 := q6
      have q7 : σ1 30 = σ 30 := q7
      rw [q4, q5, q6, q7]
      refine ⟨fun k k1 k2 => ?_, fun k k1 k2 => ?_⟩
      · have := e54 k k1 k2
        rw [show 39 * ((0 : Nat) : Int) + k = k by omega] at this; exact this
      · have := eo k k1 (by have := hM.1.2; omega)
        rw [show 39 * (1 - ((0 : Nat) : Int)) + k = 39 + k by omega, k54] at this
        rw [this]; exact hb.2 k k1 k2
    · have q4 : σ1 17 3 = n := q4
      have q5 : σ1 30 = b := q5
      have q6 : σ1 16 3 = σ 16 3 := q6
      have q7 : σ1 29 = σ 29 := q7
      rw [q4, q5, q6, q7]
      refine ⟨fun k k1 k2 => ?_, fun k k1 k2 => ?_⟩
      · have := eo k k1 (by have := hM.1.1; omega)
        rw [show 39 * (1 - ((1 : Nat) : Int)) + k = k by omega, k54] at this
        rw [this]; exact hb.1 k k1 k2
      · have := e54 k k1 k2
        rw [show 39 * ((1 : Nat) : Int) + k = 39 + k by omega] at this; exact this
theorem JJ.typed {σ : Mem} (h : JJ σ) {a : Int} (ha : 0 ≤ a ∧ a < 2) : σ 53 a = σ (16 + a.toNat) 3 ∧ (0 ≤ σ 53 a ∧ σ 53 a ≤ 39) := by
  obtain ⟨⟨hM, hs, -⟩, -⟩ := h.2
  rcases (show a = 0 ∨ a = 1 by omega) with rfl | rfl
  · exact ⟨hs.1, hM.1.1⟩
  · exact ⟨hs.2, hM.1.2⟩
theorem JJ.byte {σ : Mem} (h : JJ σ) {a : Int} (ha : 0 ≤ a ∧ a < 2) {k : Int} (hk : 0 ≤ k ∧ k < σ 53 a) : σ 54 (39 * a + k) = σ (29 + a.toNat) k := by
  obtain ⟨⟨hM, hs, hb, -⟩, -⟩ := h.2
  rcases (show a = 0 ∨ a = 1 by omega) with rfl | rfl
  · have := hb.1 k hk.1 (by rw [← hs.1]; exact hk.2)
    rw [show 39 * (0 : Int) + k = k by omega]; exact this
  · have := hb.2 k hk.1 (by rw [← hs.2]; exact hk.2)
    rw [show 39 * (1 : Int) + k = 39 + k by omega]; exact this
theorem mt_of {σ σ1 : Mem} (hJ : JJ σ) (e53 : σ1 53 = σ 53) (e54 : σ1 54 = σ 54) : MtOK σ1 := by
  unfold MtOK
  rw [e53, e54]; exact hJ.2.1.1
theorem st_type {σ σ1 σ2 : Mem} {a b z1 z2 : Int} (hJ : JJ σ)
    (c : (¬ ((0 ≤ a ∧ a < 2) ∧ (0 ≤ b ∧ b < 256)) ∧ z1 = -2 ∧ σ1 = σ) ∨ (((0 ≤ a ∧ a < 2) ∧ (0 ≤ b ∧ b < 256)) ∧ σ (16 + a.toNat) 3 = 39 ∧ z1 = -4 ∧ σ1 = σ) ∨ (((0 ≤ a ∧ a < 2) ∧ (0 ≤ b ∧ b < 256)) ∧ σ (16 + a.toNat) 3 < 39 ∧ z1 = σ (16 + a.toNat) 3 + 1 ∧ TextQ σ σ1 a.toNat (σ (16 + a.toNat) 3 + 1) (up σ (29 + a.toNat) (σ (16 + a.toNat) 3) b (29 + a.toNat)))) :
    MtOK σ1 ∧ ((¬ ((0 ≤ a ∧ a < 2) ∧ (0 ≤ b ∧ b < 256)) ∧ z2 = -2 ∧ σ2 = σ1) ∨ (((0 ≤ a ∧ a < 2) ∧ (0 ≤ b ∧ b < 256)) ∧ σ1 53 a = 39 ∧ z2 = -4 ∧ σ2 = σ1) ∨ (((0 ≤ a ∧ a < 2) ∧ (0 ≤ b ∧ b < 256)) ∧ σ1 53 a ≠ 39 ∧ z2 = σ1 53 a + 1 ∧ σ2 = up (up σ1 54 (39 * a + σ1 53 a) b) 53 a (σ1 53 a + 1)) → z1 = z2 ∧ JJ σ2) := by
  rcases c with ⟨c1, c2, c3⟩ | ⟨c1, c2, c3, c4⟩ | ⟨c1, c2, c3, c4⟩
  · subst c3
    refine ⟨hJ.2.1.1, fun d => ?_⟩
    rcases d with ⟨d1, d2, d3⟩ | ⟨d1, -⟩ | ⟨d1, -⟩
    · rw [d3]; exact ⟨by omega, hJ⟩
    · exact absurd d1 c1
    · exact absurd d1 c1
  · subst c4
    have ht := (hJ.typed c1.1).1
    refine ⟨hJ.2.1.1, fun d => ?_⟩
    rcases d with ⟨d1, -⟩ | ⟨d1, d2, d3, d4⟩ | ⟨d1, d2, -⟩
    · exact absurd c1 d1
    · rw [d4]; exact ⟨by omega, hJ⟩
    · omega
  · have ht := hJ.typed c1.1
    have k53 : σ1 53 = σ 53 := c4.2.1 53 (by decide)
    have k54 : σ1 54 = σ 54 := c4.2.1 54 (by decide)
    refine ⟨mt_of hJ k53 k54, fun d => ?_⟩
    rcases d with ⟨d1, -⟩ | ⟨d1, d2, -⟩ | ⟨d1, d2, d3, d4⟩
    · exact absurd c1 d1
    · rw [k53] at d2; omega
    · rw [k53] at d3 d4
      refine ⟨by omega, st_text (t := a.toNat) (by omega) hJ c4 (by omega) (fun i w1 w2 => by rw [d4, up_row w1, up_row w2]) (fun k => ?_) (fun k q1 q2 => ?_) (fun k q1 q2 => ?_) (fun k q1 q2 => ?_)⟩
      · rw [d4, show ((a.toNat : Nat) : Int) = a by omega]
        by_cases w : k = a
        · rw [if_pos w, w, up_s]; omega
        · rw [if_neg w, up_n (fun q => w q.2), up_i (by decide)]
      · rw [d4, up_i (by decide), show ((a.toNat : Nat) : Int) = a by omega]
        by_cases w : k = σ (16 + a.toNat) 3
        · rw [w, ← ht.1, up_s, up_s]
        · rw [up_n (by omega), k54, hJ.byte c1.1 (by omega), up_n (fun q => w q.2)]
      · rw [d4, up_i (by decide), up_n (by omega)]
      · rw [d4, up_i (by decide)]
        by_cases w : k = 39 * a + σ 53 a
        · rw [w, up_s]; exact c1.2
        · rw [up_n (fun q => w q.2), k54]; exact hJ.2.1.1.2 k q1 q2
theorem st_short {σ σ1 σ2 : Mem} {a n : Int} (hJ : JJ σ) (ha : 0 ≤ a ∧ a < 2) (hn : 0 ≤ n ∧ n ≤ σ 53 a) (c : TextQ σ σ1 a.toNat n (σ (29 + a.toNat))) (d : σ2 = up σ1 53 a n) : JJ σ2 := by
  have ht := hJ.typed ha
  have k54 : σ1 54 = σ 54 := c.2.1 54 (by decide)
  refine st_text (t := a.toNat) (by omega) hJ c (by omega) (fun i w1 w2 => by rw [d, up_row w1]) (fun k => ?_) (fun k q1 q2 => ?_) (fun k q1 q2 => ?_) (fun k q1 q2 => ?_)
  · rw [d, show ((a.toNat : Nat) : Int) = a by omega]
    by_cases w : k = a
    · rw [if_pos w, w, up_s]
    · rw [if_neg w, up_n (fun q => w q.2)]
  · rw [d, up_i (by decide), show ((a.toNat : Nat) : Int) = a by omega, k54]
    exact hJ.byte ha (by omega)
  · rw [d, up_i (by decide)]
  · rw [d, up_i (by decide), k54]; exact hJ.2.1.1.2 k q1 q2
theorem st_wipe {σ σ1 σ2 : Mem} {a z1 z2 : Int} (hJ : JJ σ) (c : (¬ (0 ≤ a ∧ a < 2) ∧ z1 = -2 ∧ σ1 = σ) ∨ ((0 ≤ a ∧ a < 2) ∧ z1 = σ (16 + a.toNat) 3 ∧ TextQ σ σ1 a.toNat 0 (σ (29 + a.toNat)))) :
    MtOK σ1 ∧ ((¬ (0 ≤ a ∧ a < 2) ∧ z2 = -2 ∧ σ2 = σ1) ∨ ((0 ≤ a ∧ a < 2) ∧ z2 = σ1 53 a ∧ σ2 = up σ1 53 a 0) → z1 = z2 ∧ JJ σ2) := by
  rcases c with ⟨c1, c2, c3⟩ | ⟨c1, c2, c3⟩
  · subst c3
    refine ⟨hJ.2.1.1, fun d => ?_⟩
    rcases d with ⟨d1, d2, d3⟩ | ⟨d1, -⟩
    · rw [d3]; exact ⟨by omega, hJ⟩
    · exact absurd d1 c1
  · have ht := hJ.typed c1
    have k53 : σ1 53 = σ 53 := c3.2.1 53 (by decide)
    refine ⟨mt_of hJ k53 (c3.2.1 54 (by decide)), fun d => ?_⟩
    rcases d with ⟨d1, -⟩ | ⟨d1, d2, d3⟩
    · exact absurd c1 d1
    · rw [k53] at d2
      exact ⟨by omega, st_short hJ c1 (by omega) c3 d3⟩
theorem st_undo {σ σ1 σ2 : Mem} {a z1 z2 : Int} (hJ : JJ σ) (c : (¬ (0 ≤ a ∧ a < 2) ∧ z1 = -2 ∧ σ1 = σ) ∨ ((0 ≤ a ∧ a < 2) ∧ σ (16 + a.toNat) 3 = 0 ∧ z1 = -3 ∧ σ1 = σ) ∨ ((0 ≤ a ∧ a < 2) ∧ 0 < σ (16 + a.toNat) 3 ∧ z1 = σ (16 + a.toNat) 3 - 1 ∧ TextQ σ σ1 a.toNat (σ (16 + a.toNat) 3 - 1) (σ (29 + a.toNat)))) :
    MtOK σ1 ∧ ((¬ (0 ≤ a ∧ a < 2) ∧ z2 = -2 ∧ σ2 = σ1) ∨ ((0 ≤ a ∧ a < 2) ∧ σ1 53 a = 0 ∧ z2 = -3 ∧ σ2 = σ1) ∨ ((0 ≤ a ∧ a < 2) ∧ σ1 53 a ≠ 0 ∧ z2 = σ1 53 a - 1 ∧ σ2 = up σ1 53 a (σ1 53 a - 1)) → z1 = z2 ∧ JJ σ2) := by
  rcases c with ⟨c1, c2, c3⟩ | ⟨c1, c2, c3, c4⟩ | ⟨c1, c2, c3, c4⟩
  · subst c3
    refine ⟨hJ.2.1.1, fun d => ?_⟩
    rcases d with ⟨d1, d2, d3⟩ | ⟨d1, -⟩ | ⟨d1, -⟩
    · rw [d3]; exact ⟨by omega, hJ⟩
    · exact absurd d1 c1
    · exact absurd d1 c1
  · subst c4
    have ht := hJ.typed c1
    refine ⟨hJ.2.1.1, fun d => ?_⟩
    rcases d with ⟨d1, -⟩ | ⟨d1, d2, d3, d4⟩ | ⟨d1, d2, -⟩
    · exact absurd c1 d1
    · rw [d4]; exact ⟨by omega, hJ⟩
    · omega
  · have ht := hJ.typed c1
    have k53 : σ1 53 = σ 53 := c4.2.1 53 (by decide)
    refine ⟨mt_of hJ k53 (c4.2.1 54 (by decide)), fun d => ?_⟩
    rcases d with ⟨d1, -⟩ | ⟨d1, d2, -⟩ | ⟨d1, d2, d3, d4⟩
    · exact absurd c1 d1
    · rw [k53] at d2; omega
    · rw [k53] at d3 d4
      rw [ht.1] at d4
      exact ⟨by omega, st_short hJ c1 (by omega) c4 d4⟩
