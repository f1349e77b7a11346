/-! fields, arrays, static arrays -/
def CF (ci : Nat) (C : String) (T : u_T) (N : Nat) : Prop := classes[ci]? = some (C, T, N) ∧ N = nfl ci ∧ ci < 9 ∧ (∀ w ∈ u_ws C T N, w ∈ TT) ∧ (∃ ty0 : Nat → FieldType, ∀ k, k < N → parseFieldDescriptor (T k).2.2.1 = some (ty0 k)) ∧ (∀ a, a < N → ∀ b, b < N → a ≠ b → (T a).2.1 ≠ (T b).2.1)
def FL (own : String) (x ci k : Nat) (z : Int) (ty : Nat) : Prop := ∃ (C : String) (T : u_T) (N : Nat), CF ci C T N ∧ k < N ∧ (k : Int) = z ∧ fty ci k = ty ∧ Cond.fieldLink own x (T k).1 (T k).2.1 (T k).2.2.1 ∈ TT
def FP (own : String) (x ci k : Nat) (z : Int) (ty : Nat) (fy : FieldType) : Prop := ∃ (C : String) (T : u_T) (N : Nat), CF ci C T N ∧ k < N ∧ (k : Int) = z ∧ fty ci k = ty ∧ Cond.fieldLink own x (T k).1 (T k).2.1 (T k).2.2.1 ∈ TT ∧ (T k).2.2.2 = false ∧ parseFieldDescriptor (T k).2.2.1 = some fy
theorem FP.l {own : String} {x ci k ty : Nat} {z : Int} {fy : FieldType} (h : FP own x ci k z ty fy) : FL own x ci k z ty := by
  obtain ⟨C, T, N, h1, h2, h3, h4, h5, -⟩ := h
  exact ⟨C, T, N, h1, h2, h3, h4, h5⟩
theorem av_i {Θ : Th} {σ : Mem} {i n : Nat} (h : arrOf i = (0, n)) : av Θ σ i = .inl (fun j => I (σ i j)) := by simp [av, h]
theorem av_z {Θ : Th} {σ : Mem} {i n : Nat} (h : arrOf i = (2, n)) : av Θ σ i = .inl (fun j => I (σ i j)) := by simp [av, h]
theorem av_l {Θ : Th} {σ : Mem} {i n : Nat} (h : arrOf i = (1, n)) : av Θ σ i = .inr (.inl (fun j => Jl (σ i j))) := by simp [av, h]
theorem av_r {Θ : Th} {σ : Mem} {i t n : Nat} (h : arrOf i = (t, n)) (ht : t = 3 ∨ t = 4 ∨ t = 5) : av Θ σ i = .inr (.inr (.inr (.inr (fun j => some (Th.r Θ (rba i + j)))))) := by
  rcases ht with rfl | rfl | rfl <;> simp [av, h]
theorem arr_n {i t n : Nat} (h : arrOf i = (t, n)) : n < 2147483648 := by
  have h1 : ∀ j, j < 78 → (arrOf j).2 < 2147483648 := by decide +kernel
  rcases Nat.lt_or_ge t 9 with ht | ht
  · have := h1 i (arrOf_ge h ht).2
    rw [h] at this; exact this
  · rcases Nat.lt_or_ge i 78 with hi | hi
    · have := h1 i hi
      rw [h] at this; exact this
    · have h3 : ¬ i < 22 := by omega
      unfold arrOf at h
      rw [if_neg h3, List.getD_eq_getElem?_getD, List.getElem?_eq_none (by simp; omega)] at h
      simp at h; omega
theorem upd_up (σ : Mem) (i : Nat) {x v : Int} (hx : 0 ≤ x ∧ x < 2147483648) : upd (fun j : Nat => I (σ i j)) (I x).toNatClampNeg (I v) = fun j : Nat => I (up σ i x v i j) := by
  funext j
  have h := I_cl hx
  unfold upd up
  by_cases hj : j = (I x).toNatClampNeg
  · rw [if_pos hj, if_pos ⟨rfl, by omega⟩]
  · rw [if_neg hj, if_neg (fun q => hj (by omega))]
theorem updL_up (σ : Mem) (i : Nat) {x v : Int} (hx : 0 ≤ x ∧ x < 2147483648) : vp_updL (fun j : Nat => Jl (σ i j)) (I x).toNatClampNeg (Jl v) = fun j : Nat => Jl (up σ i x v i j) := by
  funext j
  have h := I_cl hx
  unfold vp_updL up
  by_cases hj : j = (I x).toNatClampNeg
  · rw [if_pos hj, if_pos ⟨rfl, by omega⟩]
  · rw [if_neg hj, if_neg (fun q => hj (by omega))]
def FS (own : String) (x t : Nat) : Prop := t < 4 ∧ Cond.fieldLink own x RX7 (sname t) "[I" ∈ TT
def sv (t : Nat) (x : Int) : Int := sval t x.toNat
section HEAP
variable {Θ : Th} {Γ : Gm} {Y : Mt} {pc : Nat} {L L' : List (Nat × Value)} {st : List Value} {σ : Mem}
theorem R_get0 (hB : Base Θ Γ Y) {x ci k ty i : Nat} {z : Int} (hf : FL Y.1.cls x ci k z ty) (hd : decode Y.2.1 pc = .ok (.getfield x, 3)) (hc : clsOf i = ci) (kk : Run Θ Γ (pc + 3) L (fv Θ σ i k :: st) σ) : Run Θ Γ pc L (.ref (Th.r Θ i) :: st) σ := by
  intro hcn H ls locs hL hP hS
  obtain ⟨C, T, N, ⟨h1, h2, h3, h4, h5, h6⟩, hk, hz, hty, hl⟩ := hf
  have hi := clsOf_lt hc h3
  refine va_get (C := C) (T := T) (N := N) (ci := ci) hB.1.1 hB.1.2.1 hB.1.2.2.2.2 h4 hB.1.2.2.2.1 hB.2.1.1 hP i (by rw [cells_get Θ σ (by omega), cellE_o hc h3]) h1 k hk (hB.1.2.2.2.2 _ hl) (fun _ h => h) ?_ hd (kk hcn H ls locs hL hP hS)
  subst h2
  simp [List.getElem?_map, List.getElem?_range hk]
theorem R_geti (hB : Base Θ Γ Y) {x ci k i : Nat} {z : Int} (hf : FL Y.1.cls x ci k z 0) (hd : decode Y.2.1 pc = .ok (.getfield x, 3)) (hc : clsOf i = ci) (kk : Run Θ Γ (pc + 3) L (.int (I (σ i z)) :: st) σ) : Run Θ Γ pc L (.ref (Th.r Θ i) :: st) σ := by
  refine R_get0 hB hf hd hc ?_
  obtain ⟨C, T, N, -, -, rfl, hty, -⟩ := hf
  simpa [fv, hc, hty] using kk
theorem R_getz (hB : Base Θ Γ Y) {x ci k i : Nat} {z : Int} (hf : FL Y.1.cls x ci k z 3) (hd : decode Y.2.1 pc = .ok (.getfield x, 3)) (hc : clsOf i = ci) (kk : Run Θ Γ (pc + 3) L (.int (I (σ i z)) :: st) σ) : Run Θ Γ pc L (.ref (Th.r Θ i) :: st) σ := by
  refine R_get0 hB hf hd hc ?_
  obtain ⟨C, T, N, -, -, rfl, hty, -⟩ := hf
  simpa [fv, hc, hty] using kk
theorem R_getl (hB : Base Θ Γ Y) {x ci k i : Nat} {z : Int} (hf : FL Y.1.cls x ci k z 1) (hd : decode Y.2.1 pc = .ok (.getfield x, 3)) (hc : clsOf i = ci) (kk : Run Θ Γ (pc + 3) L (.long (Jl (σ i z)) :: st) σ) : Run Θ Γ pc L (.ref (Th.r Θ i) :: st) σ := by
  refine R_get0 hB hf hd hc ?_
  obtain ⟨C, T, N, -, -, rfl, hty, -⟩ := hf
  simpa [fv, hc, hty] using kk
theorem R_getr (hB : Base Θ Γ Y) {x ci k i : Nat} {z : Int} (j : Nat) (hf : FL Y.1.cls x ci k z 2) (hd : decode Y.2.1 pc = .ok (.getfield x, 3)) (hc : clsOf i = ci) (hj : rid i k = j) (kk : Run Θ Γ (pc + 3) L (.ref (Th.r Θ j) :: st) σ) : Run Θ Γ pc L (.ref (Th.r Θ i) :: st) σ := by
  refine R_get0 hB hf hd hc ?_
  obtain ⟨C, T, N, -, -, rfl, hty, -⟩ := hf
  simpa [fv, hc, hty, hj] using kk
theorem R_gett (hB : Base Θ Γ Y) {x ci k i : Nat} {z : Int} (j : Nat) (hf : FL Y.1.cls x ci k z 4) (hd : decode Y.2.1 pc = .ok (.getfield x, 3)) (hc : clsOf i = ci) (hj : i - 16 = j) (kk : Run Θ Γ (pc + 3) L (.ref (Th.tx Θ j) :: st) σ) : Run Θ Γ pc L (.ref (Th.r Θ i) :: st) σ := by
  refine R_get0 hB hf hd hc ?_
  obtain ⟨C, T, N, -, -, rfl, hty, -⟩ := hf
  simpa [fv, hc, hty, hj] using kk
theorem R_put0 (hB : Base Θ Γ Y) {x ci k i ty : Nat} {z v : Int} {fy : FieldType} {w : Value} (hf : FP Y.1.cls x ci k z ty fy) (hd : decode Y.2.1 pc = .ok (.putfield x, 3)) (hc : clsOf i = ci) (hw : fv Θ (up σ i k v) i k = w) (hn : narrow fy w = w) (hfit : fits fy w = true) (hcn : Canon σ → Canon (up σ i z v)) (kk : Run Θ Γ (pc + 3) L st (up σ i z v)) : Run Θ Γ pc L (w :: .ref (Th.r Θ i) :: st) σ := by
  intro hcn0 H ls locs hL hP hS
  obtain ⟨C, T, N, ⟨h1, h2, h3, h4, ⟨ty0, h5⟩, h6⟩, hk, rfl, hty, hl, hfin, hpf⟩ := hf
  have hi := clsOf_lt hc h3
  refine va_put (C := C) (T := T) (N := N) (ci := ci) (ty := fy) hB.1.1 hB.1.2.1 hB.1.2.2.2.2 h4 ty0 h5 h6 hB.1.2.2.2.1 hB.2.1.1 hP (cells_D hB.2.1 σ) hS i (by rw [cells_get Θ σ (by omega), cellE_o hc h3]) h1 k hk (hB.1.2.2.2.2 _ hl) (fun _ h => h) hfin hpf hn hfit (by simp; omega) hd ?_
  intro H1 locs1 hP1 _ hS1
  rw [← hw, cells_put hc h3 (by omega)] at hP1
  exact kk (hcn hcn0) H1 ls locs1 hL hP1 hS1
theorem R_puti (hB : Base Θ Γ Y) {x ci k i : Nat} {z v : Int} (hf : FP Y.1.cls x ci k z 0 .int) (hd : decode Y.2.1 pc = .ok (.putfield x, 3)) (hc : clsOf i = ci) (hv : rng v) (kk : Run Θ Γ (pc + 3) L st (up σ i z v)) : Run Θ Γ pc L (.int (I v) :: .ref (Th.r Θ i) :: st) σ := by
  refine R_put0 hB hf hd hc ?_ rfl rfl (fun h => cn_up h hv) kk
  obtain ⟨C, T, N, -, -, rfl, hty, -⟩ := hf
  simp [fv, hc, hty, up_s]
theorem R_putz (hB : Base Θ Γ Y) {x ci k i : Nat} {z v : Int} (hf : FP Y.1.cls x ci k z 3 .boolean) (hd : decode Y.2.1 pc = .ok (.putfield x, 3)) (hc : clsOf i = ci) (hv : v = 0 ∨ v = 1) (kk : Run Θ Γ (pc + 3) L st (up σ i z v)) : Run Θ Γ pc L (.int (I v) :: .ref (Th.r Θ i) :: st) σ := by
  refine R_put0 hB hf hd hc ?_ (by rcases hv with rfl | rfl <;> rfl) (by rcases hv with rfl | rfl <;> rfl) (fun h => cn_up h (by omega)) kk
  obtain ⟨C, T, N, -, -, rfl, hty, -⟩ := hf
  simp [fv, hc, hty, up_s]
theorem R_putl (hB : Base Θ Γ Y) {x : Nat} {v : Int} (hf : FP Y.1.cls x 2 8 8 1 .long) (hd : decode Y.2.1 pc = .ok (.putfield x, 3)) (hv : rngL v) (kk : Run Θ Γ (pc + 3) L st (up σ 5 8 v)) : Run Θ Γ pc L (.long (Jl v) :: .ref (Th.r Θ 5) :: st) σ := by
  refine R_put0 hB (i := 5) hf hd rfl ?_ rfl rfl (fun h => cn_upL h hv (Or.inr (Or.inr ⟨rfl, rfl⟩))) kk
  simp [fv, clsOf, fty, up_s]
theorem R_iald (hB : Base Θ Γ Y) {i n : Nat} {x : Int} (ha : arrOf i = (0, n)) (hx : 0 ≤ x ∧ x < n) (hd : decode Y.2.1 pc = .ok (.iaload, 1)) (kk : Run Θ Γ (pc + 1) L (.int (I (σ i x)) :: st) σ) : Run Θ Γ pc L (.int (I x) :: .ref (Th.r Θ i) :: st) σ := by
  intro hcn H ls locs hL hP hS
  have hi := arrOf_ge ha (by decide)
  have hn := arr_n ha
  refine va_iald hB.1.1 hB.1.2.1 hB.2.1.1 hP i 0 (by rw [cells_get Θ σ hi.2, cellE_a ha (by decide), av_i ha]) rfl (I_vin hn hx) hd ?_
  have e : (((I x).toNatClampNeg : Nat) : Int) = x := I_cl (by omega)
  rw [e]
  exact kk hcn H ls locs hL hP hS
theorem R_zald (hB : Base Θ Γ Y) {i n : Nat} {x : Int} (ha : arrOf i = (2, n)) (hx : 0 ≤ x ∧ x < n) (hd : decode Y.2.1 pc = .ok (.baload, 1)) (kk : Run Θ Γ (pc + 1) L (.int (I (σ i x)) :: st) σ) : Run Θ Γ pc L (.int (I x) :: .ref (Th.r Θ i) :: st) σ := by
  intro hcn H ls locs hL hP hS
  have hi := arrOf_ge ha (by decide)
  have hn := arr_n ha
  refine va_zald hB.1.1 hB.1.2.1 hB.2.1.1 hP i 2 (by rw [cells_get Θ σ hi.2, cellE_a ha (by decide), av_z ha]) rfl (I_vin hn hx) hd ?_
  have e : (((I x).toNatClampNeg : Nat) : Int) = x := I_cl (by omega)
  rw [e]
  exact kk hcn H ls locs hL hP hS
theorem R_lald (hB : Base Θ Γ Y) {i n : Nat} {x : Int} (ha : arrOf i = (1, n)) (hx : 0 ≤ x ∧ x < n) (hd : decode Y.2.1 pc = .ok (.laload, 1)) (kk : Run Θ Γ (pc + 1) L (.long (Jl (σ i x)) :: st) σ) : Run Θ Γ pc L (.int (I x) :: .ref (Th.r Θ i) :: st) σ := by
  intro hcn H ls locs hL hP hS
  have hi := arrOf_ge ha (by decide)
  have hn := arr_n ha
  refine va_lald hB.1.1 hB.1.2.1 hB.2.1.1 hP i 1 (by rw [cells_get Θ σ hi.2, cellE_a ha (by decide), av_l ha]) rfl (I_vin hn hx) hd ?_
  have e : (((I x).toNatClampNeg : Nat) : Int) = x := I_cl (by omega)
  rw [e]
  exact kk hcn H ls locs hL hP hS
theorem R_aald (hB : Base Θ Γ Y) {i t n : Nat} {x : Int} (j : Nat) (ha : arrOf i = (t, n)) (ht : t = 3 ∨ t = 4 ∨ t = 5) (hx : 0 ≤ x ∧ x < n) (hj : rba i + x.toNat = j) (hd : decode Y.2.1 pc = .ok (.aaload, 1)) (kk : Run Θ Γ (pc + 1) L (.ref (Th.r Θ j) :: st) σ) : Run Θ Γ pc L (.int (I x) :: .ref (Th.r Θ i) :: st) σ := by
  intro hcn H ls locs hL hP hS
  have h9 : t < 9 := by omega
  have hi := arrOf_ge ha h9
  have hn := arr_n ha
  have e : (((I x).toNatClampNeg : Nat) : Int) = x := I_cl (by omega)
  have e2 : rba i + (I x).toNatClampNeg = j := by omega
  have hg : (cells Θ σ)[i]? = some (Th.r Θ i, .inl (Th.ca Θ t, n, .inr (.inr (.inr (.inr (fun j => some (Th.r Θ (rba i + j)))))))) := by rw [cells_get Θ σ hi.2, cellE_a ha h9, av_r ha ht]
  have kk' := kk hcn H ls locs hL hP hS
  subst e2
  rcases ht with rfl | rfl | rfl
  · exact va_aldq hB.1.1 hB.1.2.1 hB.2.1.1 hP i 3 hg rfl (I_vin hn hx) hd kk'
  · exact va_aldq hB.1.1 hB.1.2.1 hB.2.1.1 hP i 4 hg rfl (I_vin hn hx) hd kk'
  · exact va_aldq hB.1.1 hB.1.2.1 hB.2.1.1 hP i 5 hg rfl (I_vin hn hx) hd kk'
theorem R_iast (hB : Base Θ Γ Y) {i n : Nat} {x v : Int} (ha : arrOf i = (0, n)) (hx : 0 ≤ x ∧ x < n) (hv : rng v) (hd : decode Y.2.1 pc = .ok (.iastore, 1)) (kk : Run Θ Γ (pc + 1) L st (up σ i x v)) : Run Θ Γ pc L (.int (I v) :: .int (I x) :: .ref (Th.r Θ i) :: st) σ := by
  intro hcn H ls locs hL hP hS
  have hi := arrOf_ge ha (by decide)
  have hn := arr_n ha
  refine va_iast hB.1.1 hB.1.2.1 hB.2.1.1 hP (cells_D hB.2.1 σ) hS i 0 (by rw [cells_get Θ σ hi.2, cellE_a ha (by decide), av_i ha]) rfl (I_vin hn hx) hd ?_
  intro H1 locs1 hP1 _ hS1
  rw [upd_up σ i (by omega), ← av_i (Θ := Θ) (σ := up σ i x v) ha, cells_ast ha (by decide)] at hP1
  exact kk (cn_up hcn hv) H1 ls locs1 hL hP1 hS1
theorem R_zast (hB : Base Θ Γ Y) {i n : Nat} {x v : Int} (ha : arrOf i = (2, n)) (hx : 0 ≤ x ∧ x < n) (hv : v = 0 ∨ v = 1) (hd : decode Y.2.1 pc = .ok (.bastore, 1)) (kk : Run Θ Γ (pc + 1) L st (up σ i x v)) : Run Θ Γ pc L (.int (I v) :: .int (I x) :: .ref (Th.r Θ i) :: st) σ := by
  intro hcn H ls locs hL hP hS
  have hi := arrOf_ge ha (by decide)
  have hn := arr_n ha
  have hb : vp_nar .boolean (I v) = I v := by rcases hv with rfl | rfl <;> rfl
  refine va_zast hB.1.1 hB.1.2.1 hB.2.1.1 hP (cells_D hB.2.1 σ) hS i 2 (by rw [cells_get Θ σ hi.2, cellE_a ha (by decide), av_z ha]) rfl (I_vin hn hx) hd ?_
  intro H1 locs1 hP1 _ hS1
  rw [hb, upd_up σ i (by omega), ← av_z (Θ := Θ) (σ := up σ i x v) ha, cells_ast ha (by decide)] at hP1
  exact kk (cn_up hcn (by omega)) H1 ls locs1 hL hP1 hS1
theorem R_last (hB : Base Θ Γ Y) {i n : Nat} {x v : Int} (ha : arrOf i = (1, n)) (hi2 : i = 26 ∨ i = 28) (hx : 0 ≤ x ∧ x < n) (hv : rngL v) (hd : decode Y.2.1 pc = .ok (.lastore, 1)) (kk : Run Θ Γ (pc + 1) L st (up σ i x v)) : Run Θ Γ pc L (.long (Jl v) :: .int (I x) :: .ref (Th.r Θ i) :: st) σ := by
  intro hcn H ls locs hL hP hS
  have hi := arrOf_ge ha (by decide)
  have hn := arr_n ha
  refine va_last hB.1.1 hB.1.2.1 hB.2.1.1 hP (cells_D hB.2.1 σ) hS i 1 (by rw [cells_get Θ σ hi.2, cellE_a ha (by decide), av_l ha]) rfl (I_vin hn hx) hd ?_
  intro H1 locs1 hP1 _ hS1
  rw [updL_up σ i (by omega), ← av_l (Θ := Θ) (σ := up σ i x v) ha, cells_ast ha (by decide)] at hP1
  exact kk (cn_upL hcn hv (by omega)) H1 ls locs1 hL hP1 hS1
theorem R_alen (hB : Base Θ Γ Y) {i t n : Nat} {z : Int} (ha : arrOf i = (t, n)) (ht : t < 6) (hz : (n : Int) = z) (hd : decode Y.2.1 pc = .ok (.arraylength, 1)) (kk : Run Θ Γ (pc + 1) L (.int (I z) :: st) σ) : Run Θ Γ pc L (.ref (Th.r Θ i) :: st) σ := by
  intro hcn H ls locs hL hP hS
  have hi := arrOf_ge ha (by omega)
  subst hz
  have hg : (cells Θ σ)[i]? = some (Th.r Θ i, .inl (Th.ca Θ t, n, av Θ σ i)) := by rw [cells_get Θ σ hi.2, cellE_a ha (by omega)]
  have hty : ∃ ty, (tys Θ)[t]? = some (Th.ca Θ t, ty) := by
    match t, ht with
    | 0, _ => exact ⟨_, rfl⟩
    | 1, _ => exact ⟨_, rfl⟩
    | 2, _ => exact ⟨_, rfl⟩
    | 3, _ => exact ⟨_, rfl⟩
    | 4, _ => exact ⟨_, rfl⟩
    | 5, _ => exact ⟨_, rfl⟩
  obtain ⟨ty, hty⟩ := hty
  exact va_alen hB.1.1 hB.1.2.1 hB.2.1.1 hP i t hg hty (v := I n) rfl hd (kk hcn H ls locs hL hP hS)
theorem R_gets (hB : Base Θ Γ Y) {x t : Nat} (hf : FS Y.1.cls x t) (hd : decode Y.2.1 pc = .ok (.getstatic x, 3)) (kk : Run Θ Γ (pc + 3) L (.ref (Th.st Θ t) :: st) σ) : Run Θ Γ pc L st σ :=
  fun hcn H ls locs hL hP hS => va_gets hB.1.1 hB.1.2.1 (hB.2.1.2.2.1 t hf.1).1 hS hB.1.2.2.2.1 (hB.1.2.2.2.2 _ hf.2) (fun _ h => h) hd (kk hcn H ls locs hL hP hS)
theorem R_getsN (hB : Base Θ Γ Y) {x t : Nat} {host : String} (ht : t < 4) (hf : va_Nw (.fieldLinkNest Y.1.cls x RX7 (sname t) "[I" host) (Gm.s Γ)) (hd : decode Y.2.1 pc = .ok (.getstatic x, 3)) (kk : Run Θ Γ (pc + 3) L (.ref (Th.st Θ t) :: st) σ) : Run Θ Γ pc L st σ :=
  fun hcn H ls locs hL hP hS => va_getsN hB.1.1 hB.1.2.1 (hB.2.1.2.2.1 t ht).1 hS hB.1.2.2.2.1 (va_Nw.use rfl hf) (fun _ h => h) hd (kk hcn H ls locs hL hP hS)
theorem R_tald (hB : Base Θ Γ Y) {t : Nat} {x : Int} (ht : t < 4) (hx : 0 ≤ x ∧ x < slen t) (hd : decode Y.2.1 pc = .ok (.iaload, 1)) (kk : Run Θ Γ (pc + 1) L (.int (I (sv t x)) :: st) σ) : Run Θ Γ pc L (.int (I x) :: .ref (Th.st Θ t) :: st) σ := by
  intro hcn H ls locs hL hP hS
  have hn : slen t < 2147483648 := by
    have : ∀ t, t < 4 → slen t < 2147483648 := by decide
    exact this t ht
  have e : (((I x).toNatClampNeg : Nat) : Int) = x := I_cl (by omega)
  refine va_ti hB.1.1 hB.1.2.1 (hB.2.1.2.2.1 t ht).2 hS (I_vin hn hx) (v := .int (I (sv t x))) ?_ hd (kk hcn H ls locs hL hP hS)
  have : (I x).toNatClampNeg = x.toNat := by omega
  simp only [this, sv]
theorem R_tlen (hB : Base Θ Γ Y) {t : Nat} {z : Int} (ht : t < 4) (hz : (slen t : Int) = z) (hd : decode Y.2.1 pc = .ok (.arraylength, 1)) (kk : Run Θ Γ (pc + 1) L (.int (I z) :: st) σ) : Run Θ Γ pc L (.ref (Th.st Θ t) :: st) σ := by
  intro hcn H ls locs hL hP hS
  subst hz
  exact va_tlen hB.1.1 hB.1.2.1 (hB.2.1.2.2.1 t ht).2 hS (v := I (slen t)) rfl hd (kk hcn H ls locs hL hP hS)
end HEAP
