/-! the model's night: its words, the bond of both sides -/
abbrev MSC : List Nat := [1, 55, 56, 57, 58, 59, 60, 61, 62, 63, 64, 65, 66, 67, 71, 72, 77]
abbrev NS : List Nat := [62, 63, 64, 65, 66]
def FrM (σ σ' : Mem) : Prop := Same MSC σ σ' ∧ ∀ k, k ≠ 2 → k ≠ 7 → k ≠ 14 → k ≠ 15 → σ' 1 k = σ 1 k
def mz (σ : Mem) (k : Int) : Int → Int := fun i => if i = 0 then σ 55 k else if i = 1 then σ 56 k else if i = 2 then σ 57 k else σ 58 k
def mP (σ : Mem) (d : Int) : Bool := decide (σ 1 14 / 2 ^ d.toNat % 2 ≠ 1)
def mE (σ : Mem) (h : Nat) : List Int := (evs (σ 59) (σ 1 7).toNat h).filter (mP σ)
def esI (σ : Mem) (h d : Int) : List Int := (evs (σ 59) (σ 1 7).toNat h.toNat ++ evH (σ 59) d.toNat h.toNat).filter (mP σ)
def NPre (σ : Mem) : Prop := (0 ≤ σ 1 2 ∧ σ 1 2 ≤ 8) ∧ (0 ≤ σ 1 7 ∧ σ 1 7 ≤ 8) ∧ (∀ k, 0 ≤ k → k < σ 1 2 → BedOK (mz σ k)) ∧ (∀ d, 0 ≤ d → d < σ 1 7 → (0 ≤ σ 59 d ∧ σ 59 d < 50) ∧ (0 ≤ σ 60 d ∧ σ 60 d ≤ 9) ∧ (0 ≤ σ 61 d ∧ σ 61 d < 4)) ∧ ((0 ≤ σ 1 11 ∧ σ 1 11 ≤ 9) ∧ (0 ≤ σ 1 12 ∧ σ 1 12 ≤ 9) ∧ (1 ≤ σ 1 13 ∧ σ 1 13 ≤ 8)) ∧ (0 ≤ σ 1 14 ∧ σ 1 14 < 256) ∧ (0 ≤ σ 1 15 ∧ σ 1 15 < 256)
abbrev mln (σ : Mem) (k : Int) (es : List Int) : Int := lnL (mz σ k) (σ 59) (σ 60) (σ 61) es (σ 56 k)
abbrev mcn (σ : Mem) (k f : Int) (q : Int → Bool) (es : List Int) : Int := cnL (mz σ k) (σ 59) (σ 60) (σ 61) f q es (σ 56 k)
abbrev mft (σ : Mem) (k d : Int) (es : List Int) : Int := ftL (mz σ k) (σ 59) (σ 60) (σ 61) d es (σ 56 k)
abbrev mdp (σ : Mem) (k d : Int) (es : List Int) : Int := dpL (mz σ k) (σ 59) (σ 60) (σ 61) d es (σ 56 k)
def mDp (σ : Mem) (k h : Int) : Int := deepOf (σ 57 k) (σ 58 k) (h - mln σ k (mE σ h.toNat))
def OthK (σ σ1 : Mem) (k : Int) : Prop := ∀ j : Int, 0 ≤ j → j < 8 → j ≠ k → (∀ d, 0 ≤ d → d < 9 → σ1 64 (8 * d + j) = σ 64 (8 * d + j) ∧ σ1 65 (8 * d + j) = σ 65 (8 * d + j)) ∧ (∀ h, 0 ≤ h → h < 50 → σ1 62 (50 * j + h) = σ 62 (50 * j + h)) ∧ σ1 66 j = σ 66 j
def NMI (σ σ1 : Mem) (k : Int) (es : List Int) (H : Int) : Prop := OthK σ σ1 k ∧ σ1 66 k = mcn σ k 2 (fun _ => true) es ∧ (∀ h, 0 ≤ h → h < H → σ1 63 (50 * k + h) = (if 0 < mcn σ k 2 (fun d => decide (σ 59 d = h)) es then 1 else 0) ∧ σ1 62 (50 * k + h) = mDp σ k h) ∧
  ∀ d, 0 ≤ d → d < 9 → σ1 64 (8 * d + k) = mft σ k d es ∧ σ1 65 (8 * d + k) = if mft σ k d es = 3 ∧ σ 1 11 ≤ mdp σ k d es then 1 else 0
def StI (σ σ2 : Mem) (k h d la de : Int) : Prop := Same NS σ σ2 ∧ NMI σ σ2 k (esI σ h d) (h + 1) ∧ la = mln σ k (esI σ h d) ∧ de = deepOf (σ 57 k) (σ 58 k) (h - la)
theorem ftL_oth {z hr ho so : Int → Int} {d e : Int} (hne : e ≠ d) (es : List Int) (l : Int) : ftL z hr ho so d (es ++ [e]) l = ftL z hr ho so d es l ∧ dpL z hr ho so d (es ++ [e]) l = dpL z hr ho so d es l := by
  induction es generalizing l with
  | nil => simp [ftL, dpL, hne]
  | cons a es ih =>
    simp only [List.cons_append, ftL, dpL]
    by_cases ha : a = d
    · rw [if_pos ha, if_pos ha, if_pos ha, if_pos ha]; exact ⟨rfl, rfl⟩
    · rw [if_neg ha, if_neg ha, if_neg ha, if_neg ha]; exact ih _
theorem ftL_nin {z hr ho so : Int → Int} {d : Int} {es : List Int} (h : d ∉ es) (l : Int) : ftL z hr ho so d es l = 0 := by
  induction es generalizing l with
  | nil => rfl
  | cons a es ih =>
    simp only [ftL]
    have hne : ¬ a = d := fun q => h (q ▸ List.mem_cons_self)
    rw [if_neg hne]
    exact ih (fun q => h (List.mem_cons_of_mem _ q)) _
theorem cnL_none {z hr ho so : Int → Int} {f : Int} {q : Int → Bool} {es : List Int} (h : ∀ e ∈ es, q e = false) (l : Int) : cnL z hr ho so f q es l = 0 := by
  induction es generalizing l with
  | nil => rfl
  | cons a es ih =>
    simp only [cnL]
    rw [ih (fun e he => h e (List.mem_cons_of_mem _ he)), if_neg (fun w => by have := h a List.mem_cons_self; rw [this] at w; exact absurd w.2 (by decide))]
    rfl
theorem evs_len (hr : Int → Int) (n m : Nat) : (evs hr n m).length ≤ n := by
  have h1 := evs_fl hr n m
  have h2 := List.length_filter_le (fun d => decide (0 ≤ hr d ∧ hr d < (m : Int))) (ordL (fun k => k) n)
  rw [ordL_len] at h2
  omega
theorem esI_0 (σ : Mem) (h : Int) : esI σ h 0 = mE σ h.toNat := by
  unfold esI mE
  have : evH (σ 59) (0 : Int).toNat h.toNat = [] := rfl
  rw [this, List.append_nil]
theorem esI_n (σ : Mem) {h : Int} (hh : 0 ≤ h) : esI σ h (σ 1 7) = mE σ (h + 1).toNat := by
  unfold esI mE
  rw [show (h + 1).toNat = h.toNat + 1 by omega, evs]
theorem esI_s (σ : Mem) {h d : Int} (hd : 0 ≤ d) (hh : 0 ≤ h) : esI σ h (d + 1) = esI σ h d ++ (if σ 59 d = h ∧ mP σ d = true then [d] else []) := by
  unfold esI evH
  rw [show (d + 1).toNat = d.toNat + 1 by omega, ordL_s, List.filter_append (p := fun e => decide (σ 59 e = ((h.toNat : Nat) : Int))), ← List.append_assoc, List.filter_append]
  congr 1
  rw [show ((d.toNat : Nat) : Int) = d by omega, show ((h.toNat : Nat) : Int) = h by omega]
  by_cases c1 : σ 59 d = h
  · by_cases c2 : mP σ d = true
    · simp [List.filter_cons, c1, c2]
    · simp [List.filter_cons, c1, c2]
  · simp [List.filter_cons, c1]
theorem esI_mem {σ : Mem} {h d e : Int} (hh : 0 ≤ h) (hd : 0 ≤ d) (he : e ∈ esI σ h d) : (0 ≤ e ∧ (e < σ 1 7 ∨ e < d)) ∧ (0 ≤ σ 59 e ∧ σ 59 e ≤ h) ∧ (σ 59 e = h → e < d) := by
  unfold esI at he
  rcases List.mem_append.mp (List.mem_filter.mp he).1 with q | q
  · have := evs_mem.mp q; omega
  · have := evH_mem.mp q; omega
theorem esI_len {σ : Mem} {h d : Int} (hd : 0 ≤ d ∧ d ≤ 8) (hn : 0 ≤ σ 1 7 ∧ σ 1 7 ≤ 8) : (esI σ h d).length ≤ 16 := by
  unfold esI
  have h1 := List.length_filter_le (mP σ) (evs (σ 59) (σ 1 7).toNat h.toNat ++ evH (σ 59) d.toNat h.toNat)
  have h2 := evs_len (σ 59) (σ 1 7).toNat h.toNat
  have h3 := List.length_filter_le (fun e => decide (σ 59 e = ((h.toNat : Nat) : Int))) (ordL (fun k => k) d.toNat)
  rw [ordL_len] at h3
  rw [List.length_append] at h1
  unfold evH at *
  omega
theorem mE_mem {σ : Mem} {h : Nat} {e : Int} (he : e ∈ mE σ h) : ((0 ≤ e ∧ e < (σ 1 7).toNat) ∧ 0 ≤ σ 59 e ∧ σ 59 e < h) ∧ mP σ e = true := by
  unfold mE at he
  obtain ⟨q1, q2⟩ := List.mem_filter.mp he
  exact ⟨evs_mem.mp q1, q2⟩
theorem mz_v (σ : Mem) (k : Int) : mz σ k 0 = σ 55 k ∧ mz σ k 1 = σ 56 k ∧ mz σ k 2 = σ 57 k ∧ mz σ k 3 = σ 58 k := by simp [mz]
theorem mln_in {σ : Mem} {k : Int} {es : List Int} (hb : BedOK (mz σ k)) (he : ∀ e ∈ es, 0 ≤ σ 59 e ∧ σ 59 e < 50) : 0 ≤ mln σ k es ∧ mln σ k es < 53 := by
  obtain ⟨-, m1, -, -⟩ := mz_v σ k
  have := hb.2.1
  rw [m1] at this
  exact lnL_in (n := 0) he (by omega)
theorem NMI_hour {σ σ1 σ2 : Mem} {k h la de : Int} (hi : NMI σ σ1 k (mE σ h.toNat) h) (hS : Same NS σ σ1) (hk : 0 ≤ k ∧ k < 8) (hh : 0 ≤ h ∧ h < 50) (hl : la = mln σ k (mE σ h.toNat)) (hde : de = deepOf (σ 57 k) (σ 58 k) (h - la)) (e : σ2 = up (up σ1 62 (50 * k + h) de) 63 (50 * k + h) 0) : StI σ σ2 k h 0 la de := by
  obtain ⟨i1, i2, i3, i4⟩ := hi
  refine ⟨?_, ⟨fun j j1 j2 j3 => ⟨fun d d1 d2 => ?_, fun g g1 g2 => ?_, ?_⟩, ?_, fun g g1 g2 => ?_, fun d d1 d2 => ?_⟩, ?_, hde⟩
  · intro i q
    have q2 := q
    simp only [List.mem_cons, List.not_mem_nil, or_false, not_or] at q2
    rw [e, up_row q2.2.1, up_row q2.1, hS i q]
  · rw [e, up_i (by decide), up_i (by decide), up_i (by decide), up_i (by decide)]; exact (i1 j j1 j2 j3).1 d d1 d2
  · rw [e, up_i (by decide), up_n (by omega)]; exact (i1 j j1 j2 j3).2.1 g g1 g2
  · rw [e, up_i (by decide), up_i (by decide)]; exact (i1 j j1 j2 j3).2.2
  · rw [esI_0, e, up_i (by decide), up_i (by decide)]; exact i2
  · rw [esI_0]
    by_cases c : g = h
    · subst c
      rw [e, up_s, up_i (by decide), up_s]
      have hc : mcn σ k 2 (fun d => decide (σ 59 d = g)) (mE σ g.toNat) = 0 := by
        refine cnL_none (fun x hx => ?_) _
        have := (mE_mem hx).1.2.2
        simp only [decide_eq_false_iff_not]
        omega
      rw [hc, if_neg (by omega)]
      exact ⟨rfl, by rw [hde, hl]; rfl⟩
    · rw [e, up_n (by omega), up_i (by decide), up_i (by decide), up_n (by omega)]
      exact i3 g g1 (by omega)
  · rw [esI_0, e, up_i (by decide), up_i (by decide), up_i (by decide), up_i (by decide)]; exact i4 d d1 d2
  · rw [esI_0]; exact hl
theorem StI_skip {σ σ2 : Mem} {k h d la de : Int} (hs : StI σ σ2 k h d la de) (hd : 0 ≤ d) (hh : 0 ≤ h) (hn : ¬ (σ 59 d = h ∧ mP σ d = true)) : StI σ σ2 k h (d + 1) la de := by
  have e : esI σ h (d + 1) = esI σ h d := by rw [esI_s σ hd hh, if_neg hn, List.append_nil]
  unfold StI
  rw [e]; exact hs
theorem StI_meet {σ σ2 σ3 : Mem} {k h d la de w tv : Int} (hs : StI σ σ2 k h d la de) (hd : 0 ≤ d ∧ d < σ 1 7) (hk : 0 ≤ k ∧ k < 8) (hh : 0 ≤ h ∧ h < 50) (h8 : σ 1 7 ≤ 8) (hhr : σ 59 d = h) (hp : mP σ d = true) (hw : w = ftw (mz σ k) (σ 59) (σ 60) (σ 61) d la) (htv : tv = if w = 3 ∧ σ 1 11 ≤ de then 1 else 0) (e : σ3 = up (up σ2 64 (8 * d + k) w) 65 (8 * d + k) tv) :
    (w ≠ 2 → StI σ σ3 k h (d + 1) la de) ∧ (w = 2 → ∀ σ4, σ4 = up (up σ3 66 k (σ3 66 k + 1)) 63 (50 * k + h) 1 → StI σ σ4 k h (d + 1) (h + 3) 0) := by
  obtain ⟨hS, ⟨i1, i2, i3, i4⟩, hl, hde⟩ := hs
  have hes : esI σ h (d + 1) = esI σ h d ++ [d] := by rw [esI_s σ hd.1 hh.1, if_pos ⟨hhr, hp⟩]
  have hni : d ∉ esI σ h d := fun q => by
    have := (esI_mem hh.1 hd.1 q).2.2 hhr
    omega
  obtain ⟨-, m1, m2, m3⟩ := mz_v σ k
  have hdw : dpw (mz σ k) (σ 59) d la = de := by unfold dpw; rw [m2, m3, hhr, hde]
  have hlw : mln σ k (esI σ h d ++ [d]) = lnw (mz σ k) (σ 59) (σ 60) (σ 61) d la := by
    show lnL _ _ _ _ _ _ = _
    rw [lnL_app, hl]; rfl
  have S3 : Same NS σ σ3 := fun i q => by
    have q2 := q
    simp only [List.mem_cons, List.not_mem_nil, or_false, not_or] at q2
    rw [e, up_row q2.2.2.2.1, up_row q2.2.2.1, hS i q]
  have D : ∀ x, 0 ≤ x → x < 9 → σ3 64 (8 * x + k) = mft σ k x (esI σ h d ++ [d]) ∧ σ3 65 (8 * x + k) = if mft σ k x (esI σ h d ++ [d]) = 3 ∧ σ 1 11 ≤ mdp σ k x (esI σ h d ++ [d]) then 1 else 0 := fun x x1 x2 => by
    by_cases c : x = d
    · subst c
      have f1 : mft σ k x (esI σ h x ++ [x]) = w := by show ftL _ _ _ _ _ _ _ = _; rw [ftL_new hni, hw, hl]
      have f2 : mdp σ k x (esI σ h x ++ [x]) = de := by show dpL _ _ _ _ _ _ _ = _; rw [dpL_new hni, ← hdw, hl]
      rw [f1, f2, e, up_i (by decide), up_s, up_s]
      exact ⟨rfl, htv⟩
    · obtain ⟨o1, o2⟩ := ftL_oth (z := mz σ k) (hr := σ 59) (ho := σ 60) (so := σ 61) (d := x) (e := d) (fun q => c q.symm) (esI σ h d) (σ 56 k)
      have o1 : mft σ k x (esI σ h d ++ [d]) = mft σ k x (esI σ h d) := o1
      have o2 : mdp σ k x (esI σ h d ++ [d]) = mdp σ k x (esI σ h d) := o2
      rw [o1, o2, e, up_i (by decide), up_n (by omega), up_n (by omega), up_i (by decide)]
      exact i4 x x1 x2
  have O3 : OthK σ σ3 k := fun j j1 j2 j3 => by
    obtain ⟨a1, a2, a3⟩ := i1 j j1 j2 j3
    refine ⟨fun x x1 x2 => ?_, fun g g1 g2 => ?_, ?_⟩
    · rw [e, up_i (by decide), up_n (by omega), up_n (by omega), up_i (by decide)]; exact a1 x x1 x2
    · rw [e, up_i (by decide), up_i (by decide)]; exact a2 g g1 g2
    · rw [e, up_i (by decide), up_i (by decide)]; exact a3
  have r66 : σ3 66 = σ2 66 := by rw [e, up_row (by decide), up_row (by decide)]
  have r63 : σ3 63 = σ2 63 := by rw [e, up_row (by decide), up_row (by decide)]
  have r62 : σ3 62 = σ2 62 := by rw [e, up_row (by decide), up_row (by decide)]
  have cn1 : ∀ q : Int → Bool, mcn σ k 2 q (esI σ h d ++ [d]) = mcn σ k 2 q (esI σ h d) + (if w = 2 ∧ q d = true then 1 else 0) := fun q => by
    show cnL _ _ _ _ _ _ _ _ = _
    rw [cnL_one, hw, hl]
  constructor
  · intro hw2
    refine ⟨S3, ?_, ?_, hde⟩
    · rw [hes]
      refine ⟨O3, ?_, fun g g1 g2 => ?_, D⟩
      · rw [cn1, if_neg (fun q => hw2 q.1), r66, Int.add_zero]; exact i2
      · rw [cn1, if_neg (show ¬ (w = 2 ∧ decide (σ 59 d = g) = true) from fun q => hw2 q.1), r63, r62, Int.add_zero]; exact i3 g g1 g2
    · rw [hes, hlw]; unfold lnw; rw [← hw, if_neg hw2]
  · intro hw2 σ4 e4
    refine ⟨fun i q => ?_, ?_, ?_, ?_⟩
    · have q2 := q
      simp only [List.mem_cons, List.not_mem_nil, or_false, not_or] at q2
      rw [e4, up_row q2.2.1, up_row q2.2.2.2.2, S3 i q]
    · rw [hes]
      refine ⟨fun j j1 j2 j3 => ?_, ?_, fun g g1 g2 => ?_, fun x x1 x2 => ?_⟩
      · obtain ⟨a1, a2, a3⟩ := O3 j j1 j2 j3
        refine ⟨fun x x1 x2 => ?_, fun g g1 g2 => ?_, ?_⟩
        · rw [e4, up_i (by decide), up_i (by decide), up_i (by decide), up_i (by decide)]; exact a1 x x1 x2
        · rw [e4, up_i (by decide), up_i (by decide)]; exact a2 g g1 g2
        · rw [e4, up_i (by decide), up_n (by omega)]; exact a3
      · rw [cn1, if_pos ⟨hw2, rfl⟩, e4, up_i (by decide), up_s, r66, i2]
      · have g3 := i3 g g1 g2
        have cge := (cnL_in (z := mz σ k) (hr := σ 59) (ho := σ 60) (so := σ 61) 2 (fun d => decide (σ 59 d = g)) (esI σ h d) (σ 56 k)).1
        rw [cn1]
        by_cases c : g = h
        · rw [c, e4, up_s, up_i (by decide), up_i (by decide), r62]
          rw [c] at g3 cge
          rw [if_pos (show w = 2 ∧ decide (σ 59 d = h) = true from ⟨hw2, by simp only [decide_eq_true_eq]; exact hhr⟩), if_pos (show 0 < mcn σ k 2 (fun d => decide (σ 59 d = h)) (esI σ h d) + 1 by have : 0 ≤ mcn σ k 2 (fun d => decide (σ 59 d = h)) (esI σ h d) := cge; omega)]
          exact ⟨rfl, g3.2⟩
        · rw [e4, up_n (by omega), up_i (by decide), up_i (by decide), up_i (by decide), r63, r62, if_neg (show ¬ (w = 2 ∧ decide (σ 59 d = g) = true) by simp only [decide_eq_true_eq]; omega), Int.add_zero]
          exact g3
      · rw [e4, up_i (by decide), up_i (by decide), up_i (by decide), up_i (by decide)]; exact D x x1 x2
    · rw [hes, hlw]; unfold lnw; rw [← hw, if_pos hw2, hhr]
    · unfold deepOf; rw [if_pos (by omega)]
