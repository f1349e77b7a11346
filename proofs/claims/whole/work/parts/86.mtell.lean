/-! one deed less: the row without it; what was told, in the model's words -/
theorem phi_id {n d : Nat} (hd : d < n) : (ordL (fun k => k) n).filter (fun e => decide (e ≠ (d : Int))) = (ordL (fun k => k) (n - 1)).map (phi d) := by
  obtain ⟨m, rfl⟩ : ∃ m, n = d + 1 + m := ⟨n - (d + 1), by omega⟩
  clear hd
  induction m with
  | zero =>
    rw [Nat.add_zero, ordL_s, List.filter_append, show d + 1 - 1 = d by omega]
    have a : (ordL (fun k => k) d).filter (fun e => decide (e ≠ (d : Int))) = ordL (fun k => k) d := by
      rw [List.filter_eq_self]
      intro e he
      have := id_mem.mp he
      simp only [decide_eq_true_eq]; omega
    have b : (ordL (fun k => k) d).map (phi d) = ordL (fun k => k) d := by
      have : (ordL (fun k => k) d).map (phi d) = (ordL (fun k => k) d).map (fun x => x) := by
        refine List.map_congr_left (fun e he => ?_)
        have := id_mem.mp he
        unfold phi; rw [if_neg (by omega)]
      rw [this]; simp
    rw [a, b]; simp
  | succ m ih =>
    rw [show d + 1 + (m + 1) = (d + 1 + m) + 1 by omega, ordL_s, List.filter_append, ih, show d + 1 + m + 1 - 1 = (d + 1 + m - 1) + 1 by omega, ordL_s, List.map_append]
    congr 1
    have e : phi d ((d + 1 + m - 1 : Nat) : Int) = ((d + 1 + m : Nat) : Int) := by unfold phi; rw [if_pos (by omega)]; omega
    simp only [List.map_cons, List.map_nil, List.filter_cons, List.filter_nil]
    rw [if_pos (by simp only [decide_eq_true_eq]; omega), e]
theorem evH_phi {hr : Int → Int} {n d : Nat} (hd : d < n) (h : Nat) : (evH hr n h).filter (fun e => decide (e ≠ (d : Int))) = (evH (fun i => hr (phi d i)) (n - 1) h).map (phi d) := by
  unfold evH
  have e : ((ordL (fun k => k) (n - 1)).filter (fun e => decide (hr (phi d e) = (h : Int)))).map (phi d) = ((ordL (fun k => k) (n - 1)).map (phi d)).filter (fun e => decide (hr e = (h : Int))) := by
    rw [List.filter_map]; rfl
  rw [e, ← phi_id hd, List.filter_filter, List.filter_filter]
  exact List.filter_congr (fun x _ => Bool.and_comm _ _)
theorem evs_phi {hr : Int → Int} {n d : Nat} (hd : d < n) (m : Nat) : (evs hr n m).filter (fun e => decide (e ≠ (d : Int))) = (evs (fun i => hr (phi d i)) (n - 1) m).map (phi d) := by
  induction m with
  | zero => rfl
  | succ m ih => rw [evs, evs, List.filter_append, List.map_append, ih, evH_phi hd]
theorem mE_not {σ : Mem} {d : Nat} (h14 : σ 1 14 = 2 ^ d) (hd : (d : Int) < σ 1 7) (h8 : σ 1 7 ≤ 8) (m : Nat) : mE σ m = (evs (fun i => σ 59 (phi d i)) ((σ 1 7).toNat - 1) m).map (phi d) := by
  unfold mE
  rw [← evs_phi (by omega)]
  refine List.filter_congr (fun e he => ?_)
  have q := (evs_mem.mp he).1
  have w := bit_1 d (by omega) e.toNat (by omega)
  unfold mP
  rw [h14, decide_eq_decide]
  exact not_congr (w.trans ⟨by omega, by omega⟩)
theorem phi_lt {d : Nat} {i : Int} {n : Nat} (hi : 0 ≤ i ∧ i < (n - 1 : Nat)) : 0 ≤ phi d i ∧ phi d i < n := by
  unfold phi
  split <;> omega
theorem p2_11 : ∀ n : Nat, n < 11 → (2 : Int) ^ n ≤ 1024 := by decide
def tdB (σ : Mem) : Nat → Bool
  | 0 => true
  | k + 1 => tdB σ k && (decide (σ 68 k < σ 1 2) && decide (mcn σ (σ 68 k) 3 (fun d => decide (σ 61 d = σ 69 k)) (mE σ 50) = σ 70 k))
theorem tdB_s (σ : Mem) (k : Nat) : tdB σ (k + 1) = (tdB σ k && (decide (σ 68 k < σ 1 2) && decide (mcn σ (σ 68 k) 3 (fun d => decide (σ 61 d = σ 69 k)) (mE σ 50) = σ 70 k))) := rfl
theorem tdB_f {σ : Mem} {k : Nat} (h : tdB σ k = false) (m : Nat) : tdB σ (k + m) = false := by
  induction m with
  | zero => exact h
  | succ m ih => rw [← Nat.add_assoc]; simp only [tdB]; rw [ih]; rfl
theorem td_core {σ : Mem} {hr ho so : Int → Int} {n : Nat} (ph : Int → Int) (h2 : σ 1 2 = σ 0 2) (hb : ∀ s : Nat, (s : Int) < σ 0 2 → mz σ s 0 = σ (8 + s) 0 ∧ mz σ s 1 = σ (8 + s) 1 ∧ mz σ s 2 = σ (8 + s) 2 ∧ mz σ s 3 = σ (8 + s) 3) (hE : mE σ 50 = (evs hr n 50).map ph) (he : ∀ e ∈ evs hr n 50, hr e = σ 59 (ph e) ∧ ho e = σ 60 (ph e) ∧ so e = σ 61 (ph e)) (hT : TaR σ) (hp : ∀ k, 0 ≤ k → k < σ 4 3 → 0 ≤ σ 41 k) {m : Nat} (hm : (m : Int) ≤ σ 4 3) : tdB σ m = cmB σ hr ho so n m := by
  induction m with
  | zero => rfl
  | succ m ih =>
    simp only [tdB, cmB]
    obtain ⟨t1, t2, t3⟩ := hT.2 m (by omega) (by omega)
    rw [ih (by omega), t1, t2, t3, h2]
    have h0 := hp m (by omega) (by omega)
    by_cases q : σ 41 m < σ 0 2
    · obtain ⟨s, hs⟩ := Int.eq_ofNat_of_zero_le h0
      rw [hs] at q ⊢
      have hz := hb s q
      have e56 : σ 56 s = σ (8 + s) 1 := by rw [← hz.2.1]; exact (mz_v σ s).2.1.symm
      have := (night_map (z := mz σ s) (z' := σ (8 + s)) (hr := σ 59) (hr' := hr) (ho := σ 60) (ho' := ho) (so := σ 61) (so' := so) ph (es := evs hr n 50) ⟨hz.1.symm, hz.2.1.symm, hz.2.2.1.symm, hz.2.2.2.symm⟩ he (σ (8 + s) 1)).2 3 (fun d => decide (σ 61 d = σ 42 m)) (fun d => decide (so d = σ 42 m)) (fun e h => by rw [(he e h).2.2])
      rw [show ((s : Nat) : Int).toNat = s from rfl, this]
      show _ = _
      unfold mcn
      rw [hE, e56]
    · rw [decide_eq_false q, Bool.false_and, Bool.false_and]
theorem td_never {σ : Mem} {d : Nat} (h : RR σ) (hT : TaR σ) (h14 : σ 1 14 = 2 ^ d) (hd : (d : Int) < σ 2 4) : tdB σ (σ 1 22).toNat = nvB σ d := by
  have hn := h.1.row.1
  have ht := h.1.2.2.2.2.1
  have e7 := h.2.2.2.1
  have hw := h.2.2.2.2.2
  unfold nvB
  rw [hT.1]
  refine td_core (phi d) h.2.2.1 (fun s hs => h.z hs) ?_ (fun e he => ?_) hT (fun k k1 k2 => (ht.2 k k1 k2).1.1) (by have := ht.1; omega)
  · have ev : evs (fun i => σ 59 (phi d i)) ((σ 2 4).toNat - 1) 50 = evs (fun i => σ 33 (phi d i)) ((σ 2 4).toNat - 1) 50 := evs_cg (fun i i1 i2 => by
      have := phi_lt (d := d) (i := i) (n := (σ 2 4).toNat) ⟨i1, i2⟩
      exact (hw _ this.1 (by omega)).1) 50
    rw [mE_not h14 (by omega) (by omega), e7, ev]
  · have q := (evs_mem.mp he).1
    have := phi_lt (d := d) (i := e) (n := (σ 2 4).toNat) ⟨q.1, q.2⟩
    obtain ⟨w1, w2, w3⟩ := hw _ this.1 (by omega)
    exact ⟨w1.symm, w2.symm, w3.symm⟩
theorem td_place {σ1 σ3 : Mem} {d h : Int} (hR : RR σ1) (hT : TaR σ1) (h14 : σ1 1 14 = 0) (hS : Same [60, 62, 63, 64, 65, 66] σ1 σ3) (ho : ∀ j, j ≠ d → σ3 60 j = σ1 60 j) (hh : σ3 60 d = h) (hd : 0 ≤ d ∧ d < σ1 2 4) (h0 : 0 ≤ h) : tdB σ3 (σ3 1 22).toNat = plB σ1 d h.toNat := by
  have hn := hR.1.row.1
  have hns := hR.1.ns
  have ht := hR.1.2.2.2.2.1
  have e7 := hR.2.2.2.1
  have hw := hR.2.2.2.2.2
  have F : FrM σ1 σ3 := FrM.row 60 (by decide) hS
  have hT3 : TaR σ3 := hT.mm F
  have i3 := hR.1.mm F.1
  have k1 : σ3 1 = σ1 1 := hS 1 (by decide)
  have k2 : σ3 2 = σ1 2 := hS 2 (by decide)
  have mzs : mz σ3 = mz σ1 := by
    funext k i
    unfold mz
    rw [hS 55 (by decide), hS 56 (by decide), hS 57 (by decide), hS 58 (by decide)]
  have key := td_core (σ := σ3) (hr := σ1 33) (ho := fun i => if i = d then h else σ1 34 i) (so := σ1 35) (n := (σ1 2 4).toNat) (fun x => x) (by rw [k1, hS 0 (by decide)]; exact hR.2.2.1) (fun s hs => by
      rw [hS 0 (by decide)] at hs
      rw [mzs, hS (8 + s) (by simp; omega)]; exact hR.z hs) (by
      rw [List.map_id', mE_0 (by rw [k1]; exact h14), k1, e7, hS 59 (by decide)]
      exact evs_cg (fun i i1 i2 => (hw i i1 (by omega)).1) 50) (fun e he => by
      have q := (evs_mem.mp he).1
      obtain ⟨w1, w2, w3⟩ := hw e q.1 (by omega)
      refine ⟨by rw [hS 59 (by decide)]; exact w1.symm, ?_, by rw [hS 61 (by decide)]; exact w3.symm⟩
      show (if e = d then h else σ1 34 e) = σ3 60 e
      by_cases c : e = d
      · rw [if_pos c, c, hh]
      · rw [if_neg c, ho e c, w2]) hT3 (fun k q1 q2 => (i3.2.2.2.2.1.2 k q1 q2).1.1) (m := (σ3 1 22).toNat) (by have := i3.2.2.2.2.1.1; rw [hT3.1]; omega)
  rw [key, mm_cmB F.1 hns.2]
  unfold plB
  rw [hT3.1, hS 4 (by decide), show ((h.toNat : Nat) : Int) = h by omega]
theorem TaR.ok {σ : Mem} (h : InvC σ) (hT : TaR σ) : (0 ≤ σ 1 22 ∧ σ 1 22 ≤ 8) ∧ ∀ k, 0 ≤ k → k < σ 1 22 → (0 ≤ σ 68 k ∧ σ 68 k < 8) ∧ (0 ≤ σ 69 k ∧ σ 69 k < 4) ∧ (0 ≤ σ 70 k ∧ σ 70 k < 9) := by
  have ht := h.2.2.2.2.1
  rw [hT.1]
  refine ⟨ht.1, fun k q1 q2 => ?_⟩
  obtain ⟨t1, t2, t3⟩ := hT.2 k q1 q2
  rw [t1, t2, t3]; exact ht.2 k q1 q2
/-- what the model's read leaves -/
def RdM (σ σ' : Mem) (it : Int → Int) (r : Int) : Prop := (∀ i, i ∉ [1, 68, 69, 70] → σ' i = σ i) ∧ (∀ k, k ≠ 22 → σ' 1 k = σ 1 k) ∧ σ' 1 22 = σ 1 22 + r ∧ (∀ j, 0 ≤ j → j < r → σ' 68 (σ 1 22 + j) = it (3 * j) ∧ σ' 69 (σ 1 22 + j) = it (3 * j + 1) ∧ σ' 70 (σ 1 22 + j) = it (3 * j + 2)) ∧ ∀ x, x < σ 1 22 → σ' 68 x = σ 68 x ∧ σ' 69 x = σ 69 x ∧ σ' 70 x = σ 70 x
def tlM (σ : Mem) (a b c : Int) : Mem := up (up (up (up σ 68 (σ 1 22) a) 69 (σ 1 22) b) 70 (σ 1 22) c) 1 22 (σ 1 22 + 1)
theorem RdM_s {σ σ1 σ2 : Mem} {it : Int → Int} {k : Int} (h : RdM σ σ1 it k) (hk : 0 ≤ k) (e : σ2 = tlM σ1 (it (3 * k)) (it (3 * k + 1)) (it (3 * k + 2))) : RdM σ σ2 it (k + 1) := by
  obtain ⟨h1, h0, h2, h3, h4⟩ := h
  unfold tlM at e
  rw [h2] at e
  refine ⟨fun i hi => ?_, fun j hj => ?_, ?_, fun j q1 q2 => ?_, fun x hx => ?_⟩
  · have hi' := hi
    simp only [List.mem_cons, List.not_mem_nil, or_false, not_or] at hi'
    rw [e, up_row hi'.1, up_row hi'.2.2.2, up_row hi'.2.2.1, up_row hi'.2.1, h1 i hi]
  · rw [e, up_n (by omega), up_i (by decide), up_i (by decide), up_i (by decide)]; exact h0 j hj
  · rw [e, up_s]; omega
  · by_cases c : j = k
    · rw [c, e]
      simp [up]
    · have := h3 j q1 (by omega)
      rw [e]
      simp [up, show ¬ (σ 1 22 + j = σ 1 22 + k) by omega]
      exact this
  · have := h4 x hx
    rw [e]
    simp [up, show ¬ (x = σ 1 22 + k) by omega]
    exact this
