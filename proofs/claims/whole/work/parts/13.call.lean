/-! a method's contract over the memory, its returns, calls -/
def BB (Θ : Th) (σ : Mem) (t : State) : Prop := Canon σ ∧ va_P (Th.D Θ) classes (cells Θ σ) t.heap
/-- kd: 0 nothing, 1 an int (or a boolean), 2 a long -/
def QcK (kd : Nat) (Θ : Th) (Qf : Int → Mem → Prop) : Array Value → State → Outcome → State → Prop := match kd with
  | 0 => va_Qv (fun σ : Mem => Qf 0 σ) (BB Θ) (AA Θ)
  | 1 => va_Qi (fun r (σ : Mem) => ∃ z, r = I z ∧ Qf z σ) (BB Θ) (AA Θ)
  | _ => va_Ql (fun r (σ : Mem) => ∃ z, r = Jl z ∧ Qf z σ) (BB Θ) (AA Θ)
def End (Θ : Th) (Γ : Gm) (kd : Nat) (Qf : Int → Mem → Prop) : Prop := Gm.Q Γ = MQ (Gm.b Γ) (QcK kd Θ Qf) (Gm.a Γ) (Gm.s Γ) (Gm.nc Γ) (Gm.ns Γ) (AA Θ)
def codeW (Y : Mt) : Cond := Cond.code Y.1 Y.2.1 Y.2.2.1 Y.2.2.2.1
def roomW (Y : Mt) : Room := { frames := Y.2.2.2.2.1, cells := 0, slots := 0, locals := Y.2.2.2.2.2 }
def PcW (Θ : Th) (av : List Value) (σ : Mem) : Array Value → State → Prop := va_Pc av (fun U => KS Θ U ∧ Canon σ ∧ va_P (Th.D Θ) classes (cells Θ σ) U.heap)
def Spc (Θ : Th) (Y : Mt) (kd : Nat) (av : List Value) (σ : Mem) (Qf : Int → Mem → Prop) : Prop := Met (Th.l Θ) Y.1 (codeW Y :: TT) (roomW Y) (PcW Θ av σ) (QcK kd Θ Qf) 0 0 (AA Θ)
theorem PcW_blind {Θ : Th} {av : List Value} {σ : Mem} : FrameBlind (PcW Θ av σ) := by
  intro a U g mk h
  obtain ⟨h1, h2, h3, h4⟩ := h
  exact ⟨h1, h2.same rfl rfl, h3, h4⟩
theorem Spc_of {Θ : Th} {Y : Mt} {kd : Nat} {av : List Value} {σ : Mem} {Qf : Int → Mem → Prop} (hy : plainName Y.1.cls = true) (hn : (lg_sl av).length ≤ Y.2.2.1) (h : ∀ Γ, Base Θ Γ Y → End Θ Γ kd Qf → Run Θ Γ 0 (lv_args 0 av) [] σ) : Spc Θ Y kd av σ Qf := by
  refine Met.ofW (cc := Y.2.1) (maxL := Y.2.2.1) (ret := Y.2.2.2.1) hy rfl ?_
  intro p e s m args below meth c s₁ B hml hv
  obtain ⟨rfl, hk, hcn, hP⟩ := hv
  have hts := atoms_spec (ws := codeW Y :: TT) B.pre
  have hb : Base Θ (p, e, roomW Y, s, m, av.toArray, below, meth, c, 0, 0, MQ below (QcK kd Θ Qf) av.toArray s 0 0 (AA Θ)) Y :=
    ⟨⟨B.exec, B.bytes, hml, findClass_of_methodNamed B.named, fun w hw => hts w (List.mem_cons_of_mem _ hw)⟩, hk, rfl, rfl, ⟨Nat.zero_le _, Nat.zero_le _⟩, B.returns, B.notSynchronized⟩
  have hr := h _ hb rfl hcn s.heap _ [] (by rw [show (Gm.c (p, e, roomW Y, s, m, av.toArray, below, meth, c, 0, 0, MQ below (QcK kd Θ Qf) av.toArray s 0 0 (AA Θ))).maxLocals = Y.2.2.1 from hml]; exact lv_entry av (n := Y.2.2.1) hn) hP va_S.rf
  rw [lg_entry_eq]
  exact hr
theorem Spc_mono {Θ : Th} {Y : Mt} {kd : Nat} {av : List Value} {σ : Mem} {Qf Qg : Int → Mem → Prop} (h : Spc Θ Y kd av σ Qf) (hq : ∀ z σ', Qf z σ' → Qg z σ') : Spc Θ Y kd av σ Qg := by
  have key : ∀ a st o t, QcK kd Θ Qf a st o t → QcK kd Θ Qg a st o t := by
    intro a st o t h1
    match kd, h1 with
    | 0, h1 => obtain ⟨⟨u, e1, e2, e3⟩, e4⟩ := h1; exact ⟨⟨u, e1, hq _ _ e2, e3⟩, e4⟩
    | 1, h1 => obtain ⟨⟨r, u, e1, ⟨z, ez, e2⟩, e3⟩, e4⟩ := h1; exact ⟨⟨r, u, e1, ⟨z, ez, hq _ _ e2⟩, e3⟩, e4⟩
    | _ + 2, h1 => obtain ⟨⟨r, u, e1, ⟨z, ez, e2⟩, e3⟩, e4⟩ := h1; exact ⟨⟨r, u, e1, ⟨z, ez, hq _ _ e2⟩, e3⟩, e4⟩
  intro p e ha hc hk s m args below hf happ hpre htr
  obtain ⟨t, o, e1, e2, e3, e4, e5⟩ := h p e ha hc hk s m args below hf happ hpre htr
  exact ⟨t, o, e1, e2, e3, key _ _ _ _ e4, e5⟩
def MS (own : String) (x : Nat) (Y : Mt) (n : Nat) : Prop := Cond.methodLink own x Y.1 ∈ TT ∧ Cond.static Y.1 ∈ TT ∧ Cond.initialized Y.1.cls ∈ TT ∧ codeW Y ∈ TT ∧ Y.1.cls ≠ "java/lang/invoke/MethodHandle" ∧ Y.1.cls ≠ "java/lang/invoke/VarHandle" ∧ (parseMethodDescriptor Y.1.desc).map (fun d => d.parameters.length) = some n
def MV (own : String) (x : Nat) (Y : Mt) (n : Nat) : Prop := Cond.methodLink own x Y.1 ∈ TT ∧ (Cond.instanceMethod Y.1 ∈ TT ∧ Cond.selects Y.1.cls Y.1 Y.1 ∈ TT) ∧ Cond.initialized Y.1.cls ∈ TT ∧ codeW Y ∈ TT ∧ Y.1.cls ≠ "java/lang/invoke/MethodHandle" ∧ Y.1.cls ≠ "java/lang/invoke/VarHandle" ∧ (parseMethodDescriptor Y.1.desc).map (fun d => d.parameters.length) = some n
section CALL
variable {Θ : Th} {Γ : Gm} {Y Y' : Mt} {pc : Nat} {L L' : List (Nat × Value)} {st rest : List Value} {σ : Mem} {Qf Qg : Int → Mem → Prop}
theorem R_iret (hB : Base Θ Γ Y) (hE : End Θ Γ 1 Qf) {z : Int} (hr : Y.2.2.2.1 = some .int) (hd : decode Y.2.1 pc = .ok (.ireturn, 1)) (h : Qf z σ) : Run Θ Γ pc L [.int (I z)] σ := by
  intro hcn H ls locs hL hP hS
  rw [hE]
  exact W.iret (v := I z) hB.1.1 hB.1.2.1 (hB.2.2.2.2.2.1.trans hr) (fun t ht hW => ⟨⟨I z, σ, rfl, ⟨z, rfl, h⟩, hcn, by rw [ht]; exact hP⟩, hS.F ht⟩) hS.2.2 hd hB.2.2.2.2.2.2
theorem R_zret (hB : Base Θ Γ Y) (hE : End Θ Γ 1 Qf) {z : Int} {ty : FieldType} (hr : Y.2.2.2.1 = some ty) (hz : narrow ty (.int (I z)) = .int (I z)) (hd : decode Y.2.1 pc = .ok (.ireturn, 1)) (h : Qf z σ) : Run Θ Γ pc L [.int (I z)] σ := by
  intro hcn H ls locs hL hP hS
  rw [hE]
  exact W.zret (v := I z) hB.1.1 hB.1.2.1 (hB.2.2.2.2.2.1.trans hr) hz (fun t ht hW => ⟨⟨I z, σ, rfl, ⟨z, rfl, h⟩, hcn, by rw [ht]; exact hP⟩, hS.F ht⟩) hS.2.2 hd hB.2.2.2.2.2.2
theorem R_lret (hB : Base Θ Γ Y) (hE : End Θ Γ 2 Qf) {z : Int} (hr : Y.2.2.2.1 = some .long) (hd : decode Y.2.1 pc = .ok (.lreturn, 1)) (h : Qf z σ) : Run Θ Γ pc L [.long (Jl z)] σ := by
  intro hcn H ls locs hL hP hS
  rw [hE]
  exact W.lret (v := Jl z) hB.1.1 hB.1.2.1 (hB.2.2.2.2.2.1.trans hr) (fun t ht hW => ⟨⟨Jl z, σ, rfl, ⟨z, rfl, h⟩, hcn, by rw [ht]; exact hP⟩, hS.F ht⟩) hS.2.2 hd hB.2.2.2.2.2.2
theorem R_vret (hB : Base Θ Γ Y) (hE : End Θ Γ 0 Qf) (hr : Y.2.2.2.1 = none) (hd : decode Y.2.1 pc = .ok (.return_, 1)) (h : Qf 0 σ) : Run Θ Γ pc L [] σ := by
  intro hcn H ls locs hL hP hS
  rw [hE]
  exact W.vret hB.1.1 hB.1.2.1 (hB.2.2.2.2.2.1.trans hr) (fun t ht hW => ⟨⟨σ, rfl, h, hcn, by rw [ht]; exact hP⟩, hS.F ht⟩) hS.2.2 hd hB.2.2.2.2.2.2
abbrev CallRm (Y Y' : Mt) : Prop := Y'.2.2.2.2.1 + 1 ≤ Y.2.2.2.2.1 ∧ 8 + (Y'.2.2.1 + 11) + Y'.2.2.2.2.2 ≤ Y.2.2.2.2.2
theorem runS0 (hB : Base Θ Γ Y) {kd x n : Nat} {av : List Value} (hS : Spc Θ Y' kd av σ Qg) (hm : MS Y.1.cls x Y' n) (hR : CallRm Y Y') (hd : decode Y.2.1 pc = .ok (.invokestatic x, 3)) (hn : av.length = n) (hst : st = av.reverse ++ rest) (hw : (rest.map fun v => v.category).sum ≤ 8)
    {H : Heap} {ls : Array Slot} {locs : List Loc} (hL : lv_has ls (Gm.c Γ).maxLocals L) (hcn : Canon σ) (hP : va_P (Th.D Θ) classes (cells Θ σ) H) (hSS : va_S (AA Θ) (Gm.s Γ).heap H locs) :
    va_Run (Gm.p Γ) (Th.l Θ) (Gm.e Γ) (Gm.R Γ) (Gm.s Γ) (Gm.m Γ) (Gm.a Γ) (Gm.b Γ) (Gm.t Γ) (Gm.c Γ) H locs (Gm.nc Γ) (Gm.ns Γ) 0 0 (F0 (Gm.m Γ) pc ls st) rest (QcK kd Θ Qg av.toArray) (AA Θ) := by
  have hg : GoodIn TT (codeW Y' :: TT) := fun w h => by
    rcases List.mem_cons.mp h with rfl | h
    · exact TT_in _ hm.2.2.2.1
    · exact TT_in w h
  have hfr := hB.2.2.1
  have hlo := hB.2.2.2.1
  have ht := hB.1.2.2.2.2
  refine va_runS (Ts := TT) (rest := rest) hB.1 hS ⟨callB_of n ht hg rfl rfl rfl (ht _ hm.2.2.1) (ht _ hm.1) hm.2.2.2.2 ⟨by rw [hfr]; exact hR.1, by rw [hlo]; exact hR.2⟩, ht _ hm.2.1⟩ ⟨PcW_blind, fun U hU hW => ⟨rfl, hB.2.1.step hW (by rw [hU]; exact hSS), hcn, by rw [hU]; exact hP⟩⟩ rfl hn (hL.1.trans hB.1.2.2.1) hst (lv_room hw) hd hB.2.2.2.2.1
theorem runV0 (hB : Base Θ Γ Y) {kd x n i ci : Nat} {av : List Value} (hS : Spc Θ Y' kd (.ref (Th.r Θ i) :: av) σ Qg) (hm : MV Y.1.cls x Y' n) (hc : clsOf i = ci) (hcl : (classes[ci]?).map (fun q => q.1) = some Y'.1.cls) (hR : CallRm Y Y') (hd : decode Y.2.1 pc = .ok (.invokevirtual x, 3)) (hn : av.length = n) (hst : st = av.reverse ++ .ref (Th.r Θ i) :: rest) (hw : (rest.map fun v => v.category).sum ≤ 8)
    {H : Heap} {ls : Array Slot} {locs : List Loc} (hL : lv_has ls (Gm.c Γ).maxLocals L) (hcn : Canon σ) (hP : va_P (Th.D Θ) classes (cells Θ σ) H) (hSS : va_S (AA Θ) (Gm.s Γ).heap H locs) :
    va_Run (Gm.p Γ) (Th.l Θ) (Gm.e Γ) (Gm.R Γ) (Gm.s Γ) (Gm.m Γ) (Gm.a Γ) (Gm.b Γ) (Gm.t Γ) (Gm.c Γ) H locs (Gm.nc Γ) (Gm.ns Γ) 0 0 (F0 (Gm.m Γ) pc ls st) rest (QcK kd Θ Qg (Value.ref (Th.r Θ i) :: av).toArray) (AA Θ) := by
  have hg : GoodIn TT (codeW Y' :: TT) := fun w h => by
    rcases List.mem_cons.mp h with rfl | h
    · exact TT_in _ hm.2.2.2.1
    · exact TT_in w h
  have hfr := hB.2.2.1
  have hlo := hB.2.2.2.1
  have ht := hB.1.2.2.2.2
  cases hq : classes[ci]? with
  | none => rw [hq] at hcl; cases hcl
  | some q =>
    rw [hq] at hcl
    have e : q.1 = Y'.1.cls := Option.some.inj hcl
    have h9 : ci < 9 := (List.getElem?_eq_some_iff.mp hq).1
    have hi := clsOf_lt hc h9
    have hrec := va_recv hB.2.1.1 hP hq (q0 := i) (a := Th.r Θ i) (by rw [cells_get Θ σ (by omega), cellE_o hc h9])
    rw [e] at hrec
    refine va_runV (Ts := TT) (C := Y'.1.cls) (rest := rest) hB.1 hS ⟨callB_of n ht hg rfl rfl rfl (ht _ hm.2.2.1) (ht _ hm.1) hm.2.2.2.2 ⟨by rw [hfr]; exact hR.1, by rw [hlo]; exact hR.2⟩, ht _ hm.2.1.1, ht _ hm.2.1.2⟩ ⟨PcW_blind, hrec, fun U hU hW => ⟨rfl, hB.2.1.step hW (by rw [hU]; exact hSS), hcn, by rw [hU]; exact hP⟩⟩ rfl hn (hL.1.trans hB.1.2.2.1) hst (lv_room hw) hd hB.2.2.2.2.1
/-- behind a call -/
theorem R_aft0 {av : Array Value} {H : Heap} {ls : Array Slot} {locs : List Loc} (hL : lv_has ls (Gm.c Γ).maxLocals L) (hSS : va_S (AA Θ) (Gm.s Γ).heap H locs)
    (h : va_Run (Gm.p Γ) (Th.l Θ) (Gm.e Γ) (Gm.R Γ) (Gm.s Γ) (Gm.m Γ) (Gm.a Γ) (Gm.b Γ) (Gm.t Γ) (Gm.c Γ) H locs (Gm.nc Γ) (Gm.ns Γ) 0 0 (F0 (Gm.m Γ) pc ls st) rest (QcK 0 Θ Qg av) (AA Θ)) (kk : ∀ σ', Qg 0 σ' → Run Θ Γ (pc + 3) L rest σ') :
    W (Gm.p Γ) (Th.l Θ) (Gm.e Γ) (Gm.R Γ) (Gm.s Γ) (Gm.m Γ) (Gm.a Γ) (Gm.b Γ) (Gm.t Γ) (Gm.c Γ) H locs (Gm.nc Γ) (Gm.ns Γ) (Gm.Q Γ) (F0 (Gm.m Γ) pc ls st) :=
  va_callv (a := av) h hSS (fun _ _ h => h) (fun _ h => h) (fun u t H1 locs1 ht _ hq hb _ _ hS1 => kk u hq hb.1 H1 ls locs1 hL (by rw [← ht]; exact hb.2) hS1)
theorem R_aft1 {av : Array Value} {H : Heap} {ls : Array Slot} {locs : List Loc} (hL : lv_has ls (Gm.c Γ).maxLocals L) (hSS : va_S (AA Θ) (Gm.s Γ).heap H locs)
    (h : va_Run (Gm.p Γ) (Th.l Θ) (Gm.e Γ) (Gm.R Γ) (Gm.s Γ) (Gm.m Γ) (Gm.a Γ) (Gm.b Γ) (Gm.t Γ) (Gm.c Γ) H locs (Gm.nc Γ) (Gm.ns Γ) 0 0 (F0 (Gm.m Γ) pc ls st) rest (QcK 1 Θ Qg av) (AA Θ)) (kk : ∀ z σ', Qg z σ' → Run Θ Γ (pc + 3) L (.int (I z) :: rest) σ') :
    W (Gm.p Γ) (Th.l Θ) (Gm.e Γ) (Gm.R Γ) (Gm.s Γ) (Gm.m Γ) (Gm.a Γ) (Gm.b Γ) (Gm.t Γ) (Gm.c Γ) H locs (Gm.nc Γ) (Gm.ns Γ) (Gm.Q Γ) (F0 (Gm.m Γ) pc ls st) :=
  va_calli (a := av) h hSS (fun _ _ h => h) (fun _ h => h) (fun r u t H1 locs1 ht _ hq hb _ _ hS1 => by
    obtain ⟨z, rfl, hq⟩ := hq
    exact kk z u hq hb.1 H1 ls locs1 hL (by rw [← ht]; exact hb.2) hS1)
theorem R_aft2 {av : Array Value} {H : Heap} {ls : Array Slot} {locs : List Loc} (hL : lv_has ls (Gm.c Γ).maxLocals L) (hSS : va_S (AA Θ) (Gm.s Γ).heap H locs)
    (h : va_Run (Gm.p Γ) (Th.l Θ) (Gm.e Γ) (Gm.R Γ) (Gm.s Γ) (Gm.m Γ) (Gm.a Γ) (Gm.b Γ) (Gm.t Γ) (Gm.c Γ) H locs (Gm.nc Γ) (Gm.ns Γ) 0 0 (F0 (Gm.m Γ) pc ls st) rest (QcK 2 Θ Qg av) (AA Θ)) (kk : ∀ z σ', Qg z σ' → Run Θ Γ (pc + 3) L (.long (Jl z) :: rest) σ') :
    W (Gm.p Γ) (Th.l Θ) (Gm.e Γ) (Gm.R Γ) (Gm.s Γ) (Gm.m Γ) (Gm.a Γ) (Gm.b Γ) (Gm.t Γ) (Gm.c Γ) H locs (Gm.nc Γ) (Gm.ns Γ) (Gm.Q Γ) (F0 (Gm.m Γ) pc ls st) :=
  va_calll (a := av) h hSS (fun _ _ h => h) (fun _ h => h) (fun r u t H1 locs1 ht _ hq hb _ _ hS1 => by
    obtain ⟨z, rfl, hq⟩ := hq
    exact kk z u hq hb.1 H1 ls locs1 hL (by rw [← ht]; exact hb.2) hS1)
theorem R_cS0 (hB : Base Θ Γ Y) {x n : Nat} {av : List Value} (hS : Spc Θ Y' 0 av σ Qg) (hm : MS Y.1.cls x Y' n) (hR : CallRm Y Y') (hd : decode Y.2.1 pc = .ok (.invokestatic x, 3)) (hn : av.length = n) (hst : st = av.reverse ++ rest) (hw : (rest.map fun v => v.category).sum ≤ 8) (kk : ∀ σ', Qg 0 σ' → Run Θ Γ (pc + 3) L rest σ') : Run Θ Γ pc L st σ :=
  fun hcn _ _ _ hL hP hSS => R_aft0 hL hSS (runS0 hB hS hm hR hd hn hst hw hL hcn hP hSS) kk
theorem R_cS1 (hB : Base Θ Γ Y) {x n : Nat} {av : List Value} (hS : Spc Θ Y' 1 av σ Qg) (hm : MS Y.1.cls x Y' n) (hR : CallRm Y Y') (hd : decode Y.2.1 pc = .ok (.invokestatic x, 3)) (hn : av.length = n) (hst : st = av.reverse ++ rest) (hw : (rest.map fun v => v.category).sum ≤ 8) (kk : ∀ z σ', Qg z σ' → Run Θ Γ (pc + 3) L (.int (I z) :: rest) σ') : Run Θ Γ pc L st σ :=
  fun hcn _ _ _ hL hP hSS => R_aft1 hL hSS (runS0 hB hS hm hR hd hn hst hw hL hcn hP hSS) kk
theorem R_cS2 (hB : Base Θ Γ Y) {x n : Nat} {av : List Value} (hS : Spc Θ Y' 2 av σ Qg) (hm : MS Y.1.cls x Y' n) (hR : CallRm Y Y') (hd : decode Y.2.1 pc = .ok (.invokestatic x, 3)) (hn : av.length = n) (hst : st = av.reverse ++ rest) (hw : (rest.map fun v => v.category).sum ≤ 8) (kk : ∀ z σ', Qg z σ' → Run Θ Γ (pc + 3) L (.long (Jl z) :: rest) σ') : Run Θ Γ pc L st σ :=
  fun hcn _ _ _ hL hP hSS => R_aft2 hL hSS (runS0 hB hS hm hR hd hn hst hw hL hcn hP hSS) kk
theorem R_cV0 (hB : Base Θ Γ Y) {x n i ci : Nat} {av : List Value} (hS : Spc Θ Y' 0 (.ref (Th.r Θ i) :: av) σ Qg) (hm : MV Y.1.cls x Y' n) (hc : clsOf i = ci) (hcl : (classes[ci]?).map (fun q => q.1) = some Y'.1.cls) (hR : CallRm Y Y') (hd : decode Y.2.1 pc = .ok (.invokevirtual x, 3)) (hn : av.length = n) (hst : st = av.reverse ++ .ref (Th.r Θ i) :: rest) (hw : (rest.map fun v => v.category).sum ≤ 8) (kk : ∀ σ', Qg 0 σ' → Run Θ Γ (pc + 3) L rest σ') : Run Θ Γ pc L st σ :=
  fun hcn _ _ _ hL hP hSS => R_aft0 hL hSS (runV0 hB hS hm hc hcl hR hd hn hst hw hL hcn hP hSS) kk
theorem R_cV1 (hB : Base Θ Γ Y) {x n i ci : Nat} {av : List Value} (hS : Spc Θ Y' 1 (.ref (Th.r Θ i) :: av) σ Qg) (hm : MV Y.1.cls x Y' n) (hc : clsOf i = ci) (hcl : (classes[ci]?).map (fun q => q.1) = some Y'.1.cls) (hR : CallRm Y Y') (hd : decode Y.2.1 pc = .ok (.invokevirtual x, 3)) (hn : av.length = n) (hst : st = av.reverse ++ .ref (Th.r Θ i) :: rest) (hw : (rest.map fun v => v.category).sum ≤ 8) (kk : ∀ z σ', Qg z σ' → Run Θ Γ (pc + 3) L (.int (I z) :: rest) σ') : Run Θ Γ pc L st σ :=
  fun hcn _ _ _ hL hP hSS => R_aft1 hL hSS (runV0 hB hS hm hc hcl hR hd hn hst hw hL hcn hP hSS) kk
theorem R_cV2 (hB : Base Θ Γ Y) {x n i ci : Nat} {av : List Value} (hS : Spc Θ Y' 2 (.ref (Th.r Θ i) :: av) σ Qg) (hm : MV Y.1.cls x Y' n) (hc : clsOf i = ci) (hcl : (classes[ci]?).map (fun q => q.1) = some Y'.1.cls) (hR : CallRm Y Y') (hd : decode Y.2.1 pc = .ok (.invokevirtual x, 3)) (hn : av.length = n) (hst : st = av.reverse ++ .ref (Th.r Θ i) :: rest) (hw : (rest.map fun v => v.category).sum ≤ 8) (kk : ∀ z σ', Qg z σ' → Run Θ Γ (pc + 3) L (.long (Jl z) :: rest) σ') : Run Θ Γ pc L st σ :=
  fun hcn _ _ _ hL hP hSS => R_aft2 hL hSS (runV0 hB hS hm hc hcl hR hd hn hst hw hL hcn hP hSS) kk
end CALL
