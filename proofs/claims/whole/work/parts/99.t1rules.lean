/-! THE CLAIM OUT OF ONE WALK OF THE LAW'S BODY. Your part is whole_start (and what it stands on); all else here is the same for every law, but numbers. -/
def R_law : String := "SleptWitnessLaw"
def lw_P (b : Addr) (xs : List Int32) (args : Array Value) (s : State) : Prop := args = #[.ref b] ∧ s.IntsAt b xs ∧ xs.length ≤ 3072 ∧ (Jvm.Cond.and given_1 narrow_1).before args s = true
def lw_Q (_ : Array Value) (s : State) (o : Outcome) (t : State) : Prop := o = .returned (some (.int 1)) ∧ Framed s o t [] 600000 7302250
def lw_Z (below : List Frame) (a : Array Value) (s : State) : State → Prop := fun t => ∃ o, t.status = .running ∧ Ended t below o ∧ lw_Q a s o t
/-- the law's own end, with 1 on the stack, nothing written that was there before, its room as the claim has it -/
theorem lw_ret {p : Program} {l : Launch} {e : Env} {s : State} {m : MethodId} {below : List Frame} {meth : Method} {c : Code} {b : Nat} (hx : p.tables.exec = Jvm.exec) (hb : c.code = code) (hr : meth.sig.returnType = ret) (hlocks : meth.locks = false) {pc : Nat} {H : Heap} {ls : Array Slot} (hdg : decode code pc = .ok (.ireturn, 1)) : W p l e room_1 s m #[Value.ref b] below meth c H [] 600000 7302250 (lw_Z below #[Value.ref b] s) (F0 m pc ls [.int 1]) := by
  intro T hT X
  obtain ⟨fs, hret, hrun, hended, hW, hframe⟩ := X.leave (v := some (.int 1)) (hlocks := hlocks) (fun h => by rw [hr] at h; cases h)
  have hmeth' : T.vm.method? m = some meth := X.method'
  refine ⟨T.setFrames fs, ?_, .returned (some (.int 1)), hrun, hended, rfl, ⟨_, rfl⟩, hW, hframe⟩
  jvm_step X.here [X.here.top, hx, hb, hdg, hmeth', hr, ret, narrow_b1]
  (try refine ⟨rfl, ?_⟩); (try refine ⟨rfl, ?_⟩)
  first | (intro acts; rw [hret _ acts rfl rfl rfl]) | rw [hret _ _ rfl rfl rfl]
  exact Steps.refl _
/-- what holds at the law's entry: the machine, the code, the tables' words (any of lw_tbl by 'hts w (by decide +kernel)'), the script of L ints xs at the cell b, what the Statement gives of the start (any of its parts by flat_of_before) -/
def lw_At (p : Program) (s : State) (m : MethodId) (meth : Method) (c : Code) (b L : Nat) (xs : Nat → Int32) : Prop :=
  p.tables.exec = Jvm.exec ∧ c.code = code ∧ meth.sig.returnType = ret ∧ c.maxLocals = 4 ∧ s.vm.findClass R_law = some m.cls ∧ (∀ w ∈ lw_tbl, w.before #[Value.ref b] s = true) ∧ va_X b L xs s s.heap ∧ b < s.heap.size ∧ meth.locks = false ∧ (Jvm.Cond.and given_1 narrow_1).before #[Value.ref b] s = true
/-! the law's own walk: its script, its end -/
def xq (xs : Nat → Int32) (i : Int) : Int := (xs i.toNat).toInt
theorem xq_rng (xs : Nat → Int32) (i : Int) : rng (xq xs i) := I_rng _
abbrev LL (Θ : Th) (b : Nat) (i : Int) : List (Nat × Value) := [(0, .ref b), (1, .ref (Th.r Θ 0)), (2, .ref (Th.r Θ 1)), (3, .int (I i))]
def LwB (Θ : Th) (Γ : Gm) (b L : Nat) (xs : Nat → Int32) : Prop := Base Θ Γ M_L_law ∧ va_X b L xs (Gm.s Γ) (Gm.s Γ).heap ∧ b < (Gm.s Γ).heap.size ∧ (∀ i, i < 78 → (Gm.s Γ).heap.size ≤ Th.r Θ i) ∧ L ≤ 3072 ∧ Gm.R Γ = room_1 ∧ Gm.a Γ = #[Value.ref b] ∧ Gm.Q Γ = lw_Z (Gm.b Γ) #[Value.ref b] (Gm.s Γ) ∧ Gm.nc Γ ≤ 600000 ∧ Gm.ns Γ ≤ 7302250
theorem LwB.out {Θ : Th} {Γ : Gm} {b L : Nat} {xs : Nat → Int32} (h : LwB Θ Γ b L xs) : ¬ AA Θ b := fun ⟨i, hi, e⟩ => by
  have h1 := h.2.2.1
  have h2 := h.2.2.2.1 i hi
  omega
section LAW
variable {Θ : Th} {Γ : Gm} {Y : Mt} {pc b L : Nat} {xs : Nat → Int32} {M : List (Nat × Value)} {st : List Value} {σ : Mem}
theorem R_slen (hW : LwB Θ Γ b L xs) (hd : decode cL_law pc = .ok (.arraylength, 1)) (k : Run Θ Γ (pc + 1) M (.int (I L) :: st) σ) : Run Θ Γ pc M (.ref b :: st) σ := by
  intro hc H ls locs hL hP hS
  exact va_slen hW.1.1.1 hW.1.1.2.1 hW.2.1 hW.2.2.1 hW.out hS hd (k hc H ls locs hL hP hS)
theorem R_sld (hW : LwB Θ Γ b L xs) {i : Int} (hi : 0 ≤ i ∧ i < L) (hd : decode cL_law pc = .ok (.iaload, 1)) (k : Run Θ Γ (pc + 1) M (.int (I (xq xs i)) :: st) σ) : Run Θ Γ pc M (.int (I i) :: .ref b :: st) σ := by
  intro hc H ls locs hL hP hS
  have hL3 := hW.2.2.2.2.1
  have e : (I i).toNatClampNeg = i.toNat := by
    have := I_cl (x := i) (by omega)
    omega
  refine va_sld hW.1.1.1 hW.1.1.2.1 hW.2.1 hW.2.2.1 hW.out hS (I_vin (by omega) hi) hd ?_
  rw [e, ← I_of (xs i.toNat)]
  exact k hc H ls locs hL hP hS
theorem R_arg (hW : LwB Θ Γ b L xs) {i : Int} (hi : 0 ≤ i ∧ i + 6 ≤ L) {j : Int} (hj : 0 ≤ j ∧ j < 6) (d0 : decode cL_law pc = .ok (.aload_n 0, 1)) (d1 : decode cL_law (pc + 1) = .ok (.iload_n 3, 1)) (d2 : decode cL_law (pc + 2) = .ok (.iconst j, 1)) (d3 : decode cL_law (pc + 3) = .ok (.iadd, 1)) (d4 : decode cL_law (pc + 4) = .ok (.iaload, 1)) (k : Run Θ Γ (pc + 5) (LL Θ b i) (.int (I (xq xs (i + j))) :: st) σ) : Run Θ Γ pc (LL Θ b i) st σ := by
  have hB := hW.1
  refine R_aload_n hB (j := 0) d0 rfl rfl ?_
  refine R_iload_n hB (j := 3) d1 rfl rfl ?_
  refine R_iconst hB d2 ?_
  refine R_iadd hB d3 ?_
  exact R_sld hW (by omega) d4 k
theorem R_icmp_same (hB : Base Θ Γ Y) {off z1 z2 : Int} (t : Nat) (h : z1 = z2) (hd : decode Y.2.1 pc = .ok (.if_icmp .eq off, 3)) (ht : (pc : Int) + off = t) (k : Run Θ Γ t M st σ) : Run Θ Γ pc M (.int (I z2) :: .int (I z1) :: st) σ := by
  subst h
  exact fun hc H ls locs hL hP hS => lv_icmp_eq hB.1.1 hB.1.2.1 hd ht (fun _ => k hc H ls locs hL hP hS) (fun q => absurd rfl q)
theorem R_lcmp_same (hB : Base Θ Γ Y) {z1 z2 : Int} (h : z1 = z2) (hd : decode Y.2.1 pc = .ok (.lcmp, 1)) (k : Run Θ Γ (pc + 1) M (.int (I 0) :: st) σ) : Run Θ Γ pc M (.long (Jl z2) :: .long (Jl z1) :: st) σ := by
  subst h
  intro hc H ls locs hL hP hS
  refine W.lcmp hB.1.1 hB.1.2.1 hd ?_
  have e : lg_cmp (Jl z1) (Jl z1) = I 0 := by
    unfold lg_cmp
    simp; rfl
  rw [e]
  exact k hc H ls locs hL hP hS
theorem R_lawret (hW : LwB Θ Γ b L xs) (hd : decode cL_law pc = .ok (.ireturn, 1)) : Run Θ Γ pc M [.int (I 1)] σ := by
  intro hc H ls locs hL hP hS
  obtain ⟨hB, -, -, h4, -, hR, ha, hQ, hn, hk⟩ := hW
  rw [hQ, hR, ha]
  refine va_forget (fun q hq => ?_) (W.widen (k := 600000) (n := 7302250) hn hk (lw_ret hB.1.1 hB.1.2.1 hB.2.2.2.2.2.1 hB.2.2.2.2.2.2 hd))
  obtain ⟨i, hi, e⟩ := hS.2.2 q hq
  rw [e]; exact h4 i hi
end LAW
