/-! one more deed: the model's quiet hours -/
theorem any_cg {l : List Nat} {f g : Nat → Bool} (h : ∀ x ∈ l, f x = g x) : l.any f = l.any g := by
  induction l with
  | nil => rfl
  | cons a l ih =>
    rw [List.any_cons, List.any_cons, h a List.mem_cons_self, ih (fun x hx => h x (List.mem_cons_of_mem _ hx))]
theorem qt_core {z hr ho so hr' ho' so' : Int → Int} {N hN : Nat} {house sound le si : Int} (e1 : ∀ k : Int, hr' k = if k = (N : Int) then (hN : Int) else hr k) (e2 : ∀ k : Int, ho' k = if k = (N : Int) then house else ho k) (e3 : ∀ k : Int, so' k = if k = (N : Int) then sound else so k) (h50 : hN < 50) :
    tsL z hr' ho' so' (evs hr' (N + 1) 50) (z 1) le si (N : Int) = qtB z hr ho so N (loudOf (z 0) house sound) le si hN := by
  have hs := evs_ins (hr := hr) (hr' := hr') (n := N) (hour := hN) e1 (50 - (hN + 1))
  rw [show hN + 1 + (50 - (hN + 1)) = 50 by omega] at hs
  obtain ⟨t, t1, t2⟩ := evs_split hr N (hN + 1) (50 - (hN + 1))
  rw [show hN + 1 + (50 - (hN + 1)) = 50 by omega] at t1
  have t3 : ∀ e ∈ t, e < N := fun e he => by
    have : e ∈ evs hr N 50 := by rw [t1]; exact List.mem_append_right _ he
    exact (evs_mem.mp this).1.2
  rw [t1, List.drop_left] at hs
  have hA : ∀ e ∈ evs hr N (hN + 1), hr' e = hr e ∧ ho' e = ho e ∧ so' e = so e := fun e he => by
    have := (evs_mem.mp he).1
    rw [e1, e2, e3, if_neg (by omega), if_neg (by omega), if_neg (by omega)]
    exact ⟨rfl, rfl, rfl⟩
  have hni : (N : Int) ∉ evs hr N (hN + 1) := fun q => by
    have := (evs_mem.mp q).1
    omega
  have hln : lnL z hr' ho' so' (evs hr N (hN + 1)) (z 1) = lnL z hr ho so (evs hr N (hN + 1)) (z 1) := (night_id ⟨rfl, rfl, rfl, rfl⟩ hA _).1
  have hN1 : hr' (N : Int) = hN := by rw [e1, if_pos rfl]
  have hN2 : ho' (N : Int) = house := by rw [e2, if_pos rfl]
  have hN3 : so' (N : Int) = sound := by rw [e3, if_pos rfl]
  have hdp : dpw z hr' (N : Int) (lnL z hr ho so (evs hr N (hN + 1)) (z 1)) = deepOf (z 2) (z 3) ((hN : Int) - lnL z hr ho so (evs hr N (hN + 1)) (z 1)) := by unfold dpw; rw [hN1]
  have hft : ftw z hr' ho' so' (N : Int) (lnL z hr ho so (evs hr N (hN + 1)) (z 1)) = fateOf (loudOf (z 0) house sound) (deepOf (z 2) (z 3) ((hN : Int) - lnL z hr ho so (evs hr N (hN + 1)) (z 1))) := by unfold ftw ldw; rw [hdp, hN2, hN3]
  unfold tsL qtB
  rw [hs, ftL_new hni, dpL_new hni, hln, hft, hdp, hN1]
  by_cases c : fateOf (loudOf (z 0) house sound) (deepOf (z 2) (z 3) ((hN : Int) - lnL z hr ho so (evs hr N (hN + 1)) (z 1))) = 3 ∧ le ≤ deepOf (z 2) (z 3) ((hN : Int) - lnL z hr ho so (evs hr N (hN + 1)) (z 1))
  · have hl : lateL z hr' ho' so' (evs hr N (hN + 1) ++ (N : Int) :: t) (z 1) si (hN : Int) = lateL z hr ho so (evs hr N (hN + 1)) (z 1) si (hN : Int) := by
      unfold lateL
      refine any_cg (fun x _ => ?_)
      by_cases w : (hN : Int) - si ≤ (x : Int) ∧ (x : Int) ≤ hN
      · have hc : cnL z hr' ho' so' 2 (fun d => decide (hr' d = (x : Int))) (evs hr N (hN + 1) ++ (N : Int) :: t) (z 1) = cnL z hr ho so 2 (fun d => decide (hr d = (x : Int))) (evs hr N (hN + 1)) (z 1) := by
          rw [cnL_app, hln]
          simp only [cnL]
          rw [cnL_none (es := t) (fun e he => by
            have q1 := t2 e he
            have q2 := t3 e he
            rw [e1, if_neg (by omega)]
            simp only [decide_eq_false_iff_not]
            omega), hft, if_neg (by omega), Int.add_zero, Int.add_zero]
          exact (night_id ⟨rfl, rfl, rfl, rfl⟩ hA _).2 2 _ _ (fun e he => by rw [(hA e he).1])
        rw [hc]
      · rw [decide_eq_false w, Bool.false_and, Bool.false_and]
    rw [hl]
  · rw [decide_eq_false c, Bool.false_and, Bool.false_and]
def QR (σ1 σ2 : Mem) (n house sound : Int) : Prop := Same [1, 59, 60, 61, 62, 63, 64, 65, 66] σ1 σ2 ∧ (∀ k, k ≠ 7 → σ2 1 k = σ1 1 k) ∧ (∀ j, j ≠ n → σ2 59 j = σ1 59 j) ∧ (∀ j, σ2 60 j = if j = n then house else σ1 60 j) ∧ (∀ j, σ2 61 j = if j = n then sound else σ1 61 j)
theorem QR.ns {σ1 σ2 σ3 : Mem} {n a b : Int} (h : QR σ1 σ2 n a b) (hS : Same NS σ2 σ3) : QR σ1 σ3 n a b := by
  obtain ⟨q1, q2, q3, q4, q5⟩ := h
  refine ⟨q1.tr hS (fun _ q => q) (fun i q => by simp only [List.mem_cons, List.not_mem_nil, or_false] at *; omega), ?_, ?_, ?_, ?_⟩
  · rw [hS 1 (by decide)]; exact q2
  · rw [hS 59 (by decide)]; exact q3
  · rw [hS 60 (by decide)]; exact q4
  · rw [hS 61 (by decide)]; exact q5
theorem QR.npre {σ1 σ3 : Mem} {n house sound h : Int} (hR : RR σ1) (h14 : σ1 1 14 = 0) (h15 : σ1 1 15 = 0) (hq : QR σ1 σ3 n house sound) (hn : n = σ1 2 4) (h8 : n < 8) (h7 : σ3 1 7 = n + 1) (hh : σ3 59 n = h) (h50 : 0 ≤ h ∧ h < 50) (ha : 0 ≤ house ∧ house < 10) (hb : 0 ≤ sound ∧ sound < 4) : NPre σ3 := by
  obtain ⟨hS, q2, q3, q4, q5⟩ := hq
  obtain ⟨a, b, c, d, e, f, g⟩ := hR.npre (by omega) (by omega)
  have hz : mz σ3 = mz σ1 := by
    funext k i
    unfold mz
    rw [hS 55 (by decide), hS 56 (by decide), hS 57 (by decide), hS 58 (by decide)]
  have hw := hR.1.row.1
  unfold NPre
  rw [hz, h7, q2 2 (by decide), q2 11 (by decide), q2 12 (by decide), q2 13 (by decide), q2 14 (by decide), q2 15 (by decide)]
  refine ⟨a, by omega, c, fun x x1 x2 => ?_, e, f, g⟩
  rw [q4, q5]
  by_cases w : x = n
  · rw [w, hh, if_pos rfl, if_pos rfl]; omega
  · rw [q3 x w, if_neg w, if_neg w]
    exact d x x1 (by rw [hR.2.2.2.1]; omega)
theorem quiet_w {σ1 σ3 σ4 : Mem} {n house sound h : Int} (hR : RR σ1) (h14 : σ1 1 14 = 0) (h15 : σ1 1 15 = 0) (hq : QR σ1 σ3 n house sound) (hn : n = σ1 2 4) (h8 : n < 8) (h7 : σ3 1 7 = n + 1) (hh : σ3 59 n = h) (h50 : 0 ≤ h ∧ h < 50) (hr : RunQ σ3 σ4) : prB σ4 n = !qtQ σ1 house sound h.toNat := by
  obtain ⟨hS, q2, q3, q4, q5⟩ := hq
  have hw := hR.1.row.1
  have hns := hR.1.ns
  have hl := hR.2.1.2.2.2
  have n2 := hR.2.2.1
  have n7 := hR.2.2.2.1
  rw [hr.pr (by rw [q2 2 (by decide)]; omega) (by omega), mP_0 (by rw [q2 14 (by decide)]; exact h14), Bool.true_and, q2 2 (by decide), q2 13 (by decide), n2, hl.2.2]
  unfold qtQ qtN
  have e : cnt (fun k : Nat => mTS σ3 (k : Int) n) (σ1 0 2).toNat = cnt (fun s : Nat => qtB (σ1 (8 + s)) (σ1 33) (σ1 34) (σ1 35) (σ1 2 4).toNat (loudOf (σ1 (8 + s) 0) house sound) (σ1 25 0) (σ1 25 1) h.toNat) (σ1 0 2).toNat := by
    refine cnt_cg (fun s hs => ?_)
    have hz := hR.z (s := s) (by omega)
    have hzz : mz σ3 = mz σ1 := by
      funext k i
      unfold mz
      rw [hS 55 (by decide), hS 56 (by decide), hS 57 (by decide), hS 58 (by decide)]
    unfold mTS
    rw [mE_0 (by rw [q2 14 (by decide)]; exact h14), q2 15 (by decide), h15, q2 11 (by decide), q2 12 (by decide), hl.1, hl.2.1, h7, hzz, hS 56 (by decide), show σ1 56 s = mz σ1 s 1 from (mz_v σ1 s).2.1.symm, show (n + 1).toNat = n.toNat + 1 by omega]
    have hc := qt_core (z := mz σ1 s) (hr := σ1 59) (ho := σ1 60) (so := σ1 61) (hr' := σ3 59) (ho' := σ3 60) (so' := σ3 61) (N := n.toNat) (hN := h.toNat) (house := house) (sound := sound) (le := σ1 25 0) (si := σ1 25 1) (fun k => by
        rw [show ((n.toNat : Nat) : Int) = n by omega, show ((h.toNat : Nat) : Int) = h by omega]
        by_cases w : k = n
        · rw [if_pos w, w, hh]
        · rw [if_neg w, q3 k w]) (fun k => by rw [show ((n.toNat : Nat) : Int) = n by omega]; exact q4 k) (fun k => by rw [show ((n.toNat : Nat) : Int) = n by omega]; exact q5 k) (by omega)
    rw [show ((n.toNat : Nat) : Int) = n by omega] at hc
    rw [hc]
    have ev : evs (σ1 59) n.toNat (h.toNat + 1) = evs (σ1 33) (σ1 2 4).toNat (h.toNat + 1) := by
      rw [hn]
      exact evs_cg (fun d d1 d2 => (hR.2.2.2.2.2 d d1 (by omega)).1) _
    unfold qtB
    rw [ev, (night_id hz (hR.he _) _).1, lateL_cg hz (hR.he _), hz.1, hz.2.1, hz.2.2.1, hz.2.2.2]
    simp
  rw [e]
  by_cases c : cnt (fun s : Nat => qtB (σ1 (8 + s)) (σ1 33) (σ1 34) (σ1 35) (σ1 2 4).toNat (loudOf (σ1 (8 + s) 0) house sound) (σ1 25 0) (σ1 25 1) h.toNat) (σ1 0 2).toNat < σ1 25 2
  · rw [decide_eq_true c, decide_eq_false (by omega)]; rfl
  · rw [decide_eq_false c, decide_eq_true (by omega)]; rfl
theorem QR.back {σ1 σ2 : Mem} {n a b : Int} (hR : RR σ1) (h : QR σ1 σ2 n a b) (hn : n = σ1 2 4) (h7 : σ2 1 7 = n) : FrM σ1 σ2 ∧ RR σ2 := by
  obtain ⟨hS, q2, q3, q4, q5⟩ := h
  have f : FrM σ1 σ2 := ⟨hS.wide (fun i q => by simp only [List.mem_cons, List.not_mem_nil, or_false] at *; omega), fun k _ w _ _ => q2 k w⟩
  refine ⟨f, hR.1.mm f.1, hR.2.1.mm f, ?_⟩
  have hns := hR.1.ns
  obtain ⟨a1, a2, a3, a4⟩ := hR.2.2
  unfold RD
  rw [q2 2 (by decide), h7, f.1 0 (by decide), f.1 2 (by decide), hS 55 (by decide), hS 56 (by decide), hS 57 (by decide), hS 58 (by decide), f.1 33 (by decide), f.1 34 (by decide), f.1 35 (by decide)]
  refine ⟨a1, hn, fun s hs => ?_, fun d d1 d2 => ?_⟩
  · rw [f.1 (8 + s) (by simp; omega)]; exact a3 s hs
  · rw [q3 d (by omega), q4, q5, if_neg (by omega), if_neg (by omega)]; exact a4 d d1 d2
def cQg (σ : Mem) (house sound i : Int) : Int := if σ 2 4 = 8 then -3 else if i = -1 then cnt (qtQ σ house sound) 50 else nthB (qtQ σ house sound) i 50
theorem mm_cQg {σ σ' : Mem} (hs : Same MSC σ σ') (h8 : σ 0 2 ≤ 8) (house sound i : Int) : cQg σ' house sound i = cQg σ house sound i := by
  unfold cQg
  rw [mm_qtQ hs h8, hs 2 (by decide)]
theorem nthB_k (p : Nat → Bool) (i : Int) {k : Int} (hk : 0 ≤ k) : nthB p i (k + 1).toNat = if p k.toNat = true ∧ cnt p k.toNat = i then k else nthB p i k.toNat := by
  rw [show (k + 1).toNat = k.toNat + 1 by omega]
  simp only [nthB]
  rw [show ((k.toNat : Nat) : Int) = k by omega]
theorem cnt_kn (p : Nat → Bool) {k : Int} (hk : 0 ≤ k) : cnt p (k + 1).toNat = cnt p k.toNat + (if p k.toNat = true then 1 else 0) := by
  rw [show (k + 1).toNat = k.toNat + 1 by omega]
  simp only [cnt]
theorem bsum_kn (p : Nat → Bool) {k : Int} (hk : 0 ≤ k) : bsum p (k + 1).toNat = bsum p k.toNat + (if p k.toNat = true then 2 ^ k.toNat else 0) := by
  rw [show (k + 1).toNat = k.toNat + 1 by omega]
  simp only [bsum]
theorem nthB_in (p : Nat → Bool) (i : Int) (m : Nat) : -1 ≤ nthB p i m ∧ nthB p i m < m := by
  induction m with
  | zero => simp [nthB]
  | succ m ih => simp only [nthB]; split <;> omega
