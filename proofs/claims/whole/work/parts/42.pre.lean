/-! the night depends on what it reads alone -/
theorem night_map {z z' hr hr' ho ho' so so' : Int → Int} (ph : Int → Int) {es : List Int} (hz : z' 0 = z 0 ∧ z' 1 = z 1 ∧ z' 2 = z 2 ∧ z' 3 = z 3) (he : ∀ e ∈ es, hr' e = hr (ph e) ∧ ho' e = ho (ph e) ∧ so' e = so (ph e)) : ∀ l, lnL z' hr' ho' so' es l = lnL z hr ho so (es.map ph) l ∧ ∀ (f : Int) (q q' : Int → Bool), (∀ e ∈ es, q' e = q (ph e)) → cnL z' hr' ho' so' f q' es l = cnL z hr ho so f q (es.map ph) l := by
  induction es with
  | nil => intro l; exact ⟨rfl, fun _ _ _ _ => rfl⟩
  | cons a es ih =>
    intro l
    obtain ⟨e1, e2, e3⟩ := he a List.mem_cons_self
    have hf : ftw z' hr' ho' so' a l = ftw z hr ho so (ph a) l := by
      simp only [ftw, ldw, dpw, e1, e2, e3, hz]
    have hn : lnw z' hr' ho' so' a l = lnw z hr ho so (ph a) l := by
      simp only [lnw, hf, e1]
    obtain ⟨i1, i2⟩ := ih (fun e h => he e (List.mem_cons_of_mem _ h)) (lnw z hr ho so (ph a) l)
    refine ⟨?_, fun f q q' hq => ?_⟩
    · simp only [lnL, List.map_cons, hn]; exact i1
    · simp only [cnL, List.map_cons, hn, hf, hq a List.mem_cons_self]
      rw [i2 f q q' (fun e h => hq e (List.mem_cons_of_mem _ h))]
theorem night_cg {z z' hr hr' ho ho' so so' : Int → Int} {es : List Int} (hz : z' 0 = z 0 ∧ z' 1 = z 1 ∧ z' 2 = z 2 ∧ z' 3 = z 3) (he : ∀ e ∈ es, hr' e = hr e ∧ ho' e = ho e ∧ so' e = so e) (d : Int) : ∀ l, ftL z' hr' ho' so' d es l = ftL z hr ho so d es l ∧ dpL z' hr' ho' so' d es l = dpL z hr ho so d es l := by
  induction es with
  | nil => intro l; exact ⟨rfl, rfl⟩
  | cons a es ih =>
    intro l
    obtain ⟨e1, e2, e3⟩ := he a List.mem_cons_self
    have hf : ftw z' hr' ho' so' a l = ftw z hr ho so a l := by
      simp only [ftw, ldw, dpw, e1, e2, e3, hz]
    have hd : dpw z' hr' a l = dpw z hr a l := by
      simp only [dpw, e1, hz]
    have hn : lnw z' hr' ho' so' a l = lnw z hr ho so a l := by
      simp only [lnw, hf, e1]
    obtain ⟨i1, i2⟩ := ih (fun e h => he e (List.mem_cons_of_mem _ h)) (lnw z hr ho so a l)
    simp only [ftL, dpL, hn, hf, hd, i1, i2]
    exact ⟨trivial, trivial⟩
theorem lateL_cg {z z' hr hr' ho ho' so so' : Int → Int} {es : List Int} (hz : z' 0 = z 0 ∧ z' 1 = z 1 ∧ z' 2 = z 2 ∧ z' 3 = z 3) (he : ∀ e ∈ es, hr' e = hr e ∧ ho' e = ho e ∧ so' e = so e) (l si hour : Int) : lateL z' hr' ho' so' es l si hour = lateL z hr ho so es l si hour := by
  unfold lateL
  congr 1
  funext h
  have := (night_map (fun e => e) hz he l).2 2 (fun d => decide (hr d = (h : Int))) (fun d => decide (hr' d = (h : Int))) (fun e q => by rw [(he e q).1])
  rw [this]
  simp
theorem tsL_cg {z z' hr hr' ho ho' so so' : Int → Int} {es : List Int} (hz : z' 0 = z 0 ∧ z' 1 = z 1 ∧ z' 2 = z 2 ∧ z' 3 = z 3) (he : ∀ e ∈ es, hr' e = hr e ∧ ho' e = ho e ∧ so' e = so e) (l le si : Int) {d : Int} (hd : hr' d = hr d) : tsL z' hr' ho' so' es l le si d = tsL z hr ho so es l le si d := by
  obtain ⟨a, b⟩ := night_cg hz he d l
  unfold tsL
  rw [a, b, hd, lateL_cg hz he]
theorem evs_cg {hr hr' : Int → Int} {n : Nat} (h : ∀ d : Int, 0 ≤ d → d < n → hr' d = hr d) (m : Nat) : evs hr' n m = evs hr n m := by
  induction m with
  | zero => rfl
  | succ m ih =>
    rw [evs, evs, ih]
    congr 1
    unfold evH
    apply List.filter_congr
    intro d hd
    have := id_mem.mp hd
    rw [h d this.1 this.2]
/-- a sleeper with another house, another supper -/
def zHo (z : Int → Int) (h : Int) : Int → Int := fun k => if k = 0 then h else z k
def zSu (z : Int → Int) (v : Int) : Int → Int := fun k => if k = 2 then v else z k
def TSz (σ : Mem) (z : Int → Int) (d : Int) : Bool := tsL z (σ 33) (σ 34) (σ 35) (evs (σ 33) (σ 2 4).toNat 50) (z 1) (σ 25 0) (σ 25 1) d
def mvP (σ : Mem) (s : Nat) (h : Nat) : Int := cnt (fun d : Nat => decide (σ 25 2 ≤ cnt (fun j : Nat => if j = s then TSz σ (zHo (σ (8 + s)) (h : Int)) (d : Int) else cTS σ j (d : Int)) (σ 0 2).toNat)) (σ 2 4).toNat
def fdP (σ : Mem) (s : Nat) (v : Nat) : Int := cnt (fun d : Nat => TSz σ (zSu (σ (8 + s)) (v : Int)) (d : Int)) (σ 2 4).toNat
def becM (σ : Mem) (o : Nat) : Mem := fun i k => if i = 7 ∧ (k = 0 ∨ k = 1 ∨ k = 2 ∨ k = 3) then σ o k else σ i k
theorem becM_row (σ : Mem) (o : Nat) {i : Nat} (h : i ≠ 7) : becM σ o i = σ i := by
  funext k
  unfold becM
  rw [if_neg (fun q => h q.1)]
theorem becM_7 (σ : Mem) (o : Nat) : becM σ o 7 0 = σ o 0 ∧ becM σ o 7 1 = σ o 1 ∧ becM σ o 7 2 = σ o 2 ∧ becM σ o 7 3 = σ o 3 := by
  simp [becM]
/-- what was told comes out so by the deeds hr ho so, n of them -/
def cmB (σ : Mem) (hr ho so : Int → Int) (n : Nat) : Nat → Bool
  | 0 => true
  | k + 1 => cmB σ hr ho so n k && (decide (σ 41 k < σ 0 2) && decide (cnL (σ (8 + (σ 41 k).toNat)) hr ho so 3 (fun d => decide (so d = σ 42 k)) (evs hr n 50) (σ (8 + (σ 41 k).toNat) 1) = σ 43 k))
def nvB (σ : Mem) (d : Nat) : Bool := cmB σ (fun i => σ 33 (phi d i)) (fun i => σ 34 (phi d i)) (fun i => σ 35 (phi d i)) ((σ 2 4).toNat - 1) (σ 4 3).toNat
def plB (σ : Mem) (d : Int) (h : Nat) : Bool := cmB σ (σ 33) (fun i => if i = d then (h : Int) else σ 34 i) (σ 35) (σ 2 4).toNat (σ 4 3).toNat
def mkW (σ : Mem) (s : Nat) (d : Nat) : Int := cnL (σ (8 + s)) (fun i => σ 33 (phi d i)) (fun i => σ 34 (phi d i)) (fun i => σ 35 (phi d i)) 3 (fun _ => true) (evs (fun i => σ 33 (phi d i)) ((σ 2 4).toNat - 1) 50) (σ (8 + s) 1)
/-- the most of those that have p whose g is the same -/
def mAl (p : Nat → Bool) (g : Nat → Int) : Nat → Int
  | 0 => 0
  | n + 1 => if p n = true then max (mAl p g n) (cnt (fun d => p d && decide (g d = g n)) (n + 1)) else mAl p g n
theorem cmB_cg {σ σ' : Mem} {hr hr' ho ho' so so' : Int → Int} {n : Nat} (e0 : σ' 0 2 = σ 0 2) (hns : σ 0 2 ≤ 8) (e41 : σ' 41 = σ 41) (e42 : σ' 42 = σ 42) (e43 : σ' 43 = σ 43) (eb : ∀ s : Nat, s < 8 → σ' (8 + s) = σ (8 + s)) (hd : ∀ d : Int, 0 ≤ d → d < n → hr' d = hr d ∧ ho' d = ho d ∧ so' d = so d) (m : Nat) : cmB σ' hr' ho' so' n m = cmB σ hr ho so n m := by
  induction m with
  | zero => rfl
  | succ m ih =>
    simp only [cmB]
    rw [ih, e0, e41, e42, e43, evs_cg (fun d a b => (hd d a b).1)]
    by_cases q : σ 41 m < σ 0 2
    · rw [eb (σ 41 m).toNat (by omega)]
      have := (night_map (z := σ (8 + (σ 41 (m : Int)).toNat)) (z' := σ (8 + (σ 41 (m : Int)).toNat)) (hr := hr) (hr' := hr') (ho := ho) (ho' := ho') (so := so) (so' := so') (fun e => e) (es := evs hr n 50) ⟨rfl, rfl, rfl, rfl⟩ (fun e he => by have := (evs_mem.mp he).1; exact hd e this.1 this.2) (σ (8 + (σ 41 (m : Int)).toNat) 1)).2 3 (fun d => decide (so d = σ 42 (m : Int))) (fun d => decide (so' d = σ 42 (m : Int))) (fun e he => by have := (evs_mem.mp he).1; rw [(hd e this.1 this.2).2.2])
      rw [this]
      simp
    · simp [q]
theorem zHo_v (z : Int → Int) (h : Int) : zHo z h 0 = h ∧ zHo z h 1 = z 1 ∧ zHo z h 2 = z 2 ∧ zHo z h 3 = z 3 := by simp [zHo]
theorem zSu_v (z : Int → Int) (h : Int) : zSu z h 0 = z 0 ∧ zSu z h 1 = z 1 ∧ zSu z h 2 = h ∧ zSu z h 3 = z 3 := by simp [zSu]
theorem TSz_cg {σ : Mem} {z z' : Int → Int} (hz : z' 0 = z 0 ∧ z' 1 = z 1 ∧ z' 2 = z 2 ∧ z' 3 = z 3) (d : Int) : TSz σ z' d = TSz σ z d := by
  unfold TSz
  rw [hz.2.1]
  exact tsL_cg hz (fun e he => ⟨rfl, rfl, rfl⟩) _ _ _ rfl
