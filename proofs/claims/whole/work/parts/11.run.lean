/-! the words that every method has; where static arrays and texts are; a machine's walk over the memory -/
def TT : List Cond := lw_tbl.filter goodWord
theorem TT_of {w : Cond} (h : w ∈ lw_tbl) (hg : goodWord w = true) : w ∈ TT := List.mem_filter.mpr ⟨h, hg⟩
theorem TT_good {w : Cond} (h : w ∈ TT) : (w.onTables && w.keeps) = true ∨ ∃ ty, w = .arrayClass ty := good_of_word (List.mem_filter.mp h).2
theorem TT_in : GoodIn TT TT := fun _ h => ⟨h, TT_good h⟩
abbrev tys (Θ : Th) : List (ClassId × FieldType) := [(Th.ca Θ 0, .int), (Th.ca Θ 1, .long), (Th.ca Θ 2, .boolean), (Th.ca Θ 3, .object RX6), (Th.ca Θ 4, .object RX4), (Th.ca Θ 5, .object RX3)]
def AA (Θ : Th) : Nat → Prop := fun q => ∃ i, i < 78 ∧ q = Th.r Θ i
def sname (t : Nat) : String := ["CYCLE", "LOUD", "LAW_LOW", "LAW_HIGH"].getD t ""
def slen (t : Nat) : Nat := [6, 4, 3, 3].getD t 0
def sval (t : Nat) (k : Nat) : Int := ([[1, 3, 5, 6, 4, 2], [6, 4, 9, 3], [0, 0, 1], [9, 9, 8]].getD t []).getD k 0
def NW (U : State) : Prop := va_Nw (.fieldLinkNest RX2 95 RX7 "LOUD" "[I" RX7) U ∧ va_Nw (.fieldLinkNest RX4 24 RX7 "CYCLE" "[I" RX7) U ∧ va_Nw (.methodLinkNest RX5 21 yX7_within RX7) U
def KS (Θ : Th) (U : State) : Prop := va_K (Th.D Θ) classes (tys Θ) U ∧ (∀ i j, i < 78 → j < 78 → Th.r Θ i = Th.r Θ j → i = j) ∧
  (∀ t, t < 4 → va_Z RX7 (sname t) "[I" (.ref (Th.st Θ t)) (AA Θ) U U.heap ∧ va_T .int (Th.st Θ t) (slen t) (fun j => .int (I (sval t j))) (AA Θ) U U.heap) ∧
  va_Z RJ0 "COMPACT_STRINGS" "Z" (.int 1) (AA Θ) U U.heap ∧ vk_S 2 [4, 4] [[121, 111, 119, 105], [107, 118, 102, 100]] (Th.tx Θ) (Th.by Θ) (AA Θ) U U.heap ∧ NW U
theorem KS.step {Θ : Th} {s U : State} {locs : List Loc} (h : KS Θ s) (hW : s.WarmedH U.vm) (hS : va_S (AA Θ) s.heap U.heap locs) : KS Θ U := by
  obtain ⟨h1, h2, h3, h4, h5, h6, h7, h8⟩ := h
  have hvm := hW.alike
  exact ⟨va_K.moved hvm h1, h2, fun t ht => ⟨((h3 t ht).1.moved hvm).kept hS.2.1, ((h3 t ht).2.moved hvm).kept hS.2.1⟩, (h4.moved hvm).kept hS.2.1, (h5.moved hvm).kept hS.2.1, h6.warmF hW, h7.warmF hW, h8.warmM hW⟩
theorem KS.same {Θ : Th} {s U : State} (h : KS Θ s) (hv : U.vm = s.vm) (hh : U.heap = s.heap) : KS Θ U := by
  obtain ⟨h1, h2, h3, h4, h5, h6, h7, h8⟩ := h
  have hvm : s.vm.Alike U.vm := by rw [hv]; exact Vm.Alike.refl s.vm
  exact ⟨va_K.moved hvm h1, h2, fun t ht => ⟨by rw [hh]; exact (h3 t ht).1.moved hvm, by rw [hh]; exact (h3 t ht).2.moved hvm⟩, by rw [hh]; exact h4.moved hvm, by rw [hh]; exact h5.moved hvm, va_tabs rfl hv.symm h6, va_tabs rfl hv.symm h7, va_tabs rfl hv.symm h8⟩
theorem cells_D {Θ : Th} {U : State} (h : KS Θ U) (σ : Mem) : va_D (AA Θ) (cells Θ σ) := by
  refine ⟨fun i j p q hi hj hpq => ?_, fun k q hk => ?_⟩
  · obtain ⟨a1, rfl⟩ := cells_inv hi
    obtain ⟨b1, rfl⟩ := cells_inv hj
    exact h.2.1 i j a1 b1 hpq
  · obtain ⟨a1, rfl⟩ := cells_inv hk
    exact ⟨k, a1, rfl⟩
/-- a method: name, code, locals, answer, frames and words below it -/
abbrev Mt : Type := MethodName × ByteArray × Nat × Option FieldType × Nat × Nat
abbrev Gm : Type := Program × Env × Room × State × MethodId × Array Value × List Frame × Method × Code × Nat × Nat × (State → Prop)
def Gm.p (Γ : Gm) : Program := Γ.1
def Gm.e (Γ : Gm) : Env := Γ.2.1
def Gm.R (Γ : Gm) : Room := Γ.2.2.1
def Gm.s (Γ : Gm) : State := Γ.2.2.2.1
def Gm.m (Γ : Gm) : MethodId := Γ.2.2.2.2.1
def Gm.a (Γ : Gm) : Array Value := Γ.2.2.2.2.2.1
def Gm.b (Γ : Gm) : List Frame := Γ.2.2.2.2.2.2.1
def Gm.t (Γ : Gm) : Method := Γ.2.2.2.2.2.2.2.1
def Gm.c (Γ : Gm) : Code := Γ.2.2.2.2.2.2.2.2.1
def Gm.nc (Γ : Gm) : Nat := Γ.2.2.2.2.2.2.2.2.2.1
def Gm.ns (Γ : Gm) : Nat := Γ.2.2.2.2.2.2.2.2.2.2.1
def Gm.Q (Γ : Gm) : State → Prop := Γ.2.2.2.2.2.2.2.2.2.2.2
/-- what holds of a machine that walks the method Y -/
def Base (Θ : Th) (Γ : Gm) (Y : Mt) : Prop := ((Gm.p Γ).tables.exec = Jvm.exec ∧ (Gm.c Γ).code = Y.2.1 ∧ (Gm.c Γ).maxLocals = Y.2.2.1 ∧ (Gm.s Γ).vm.findClass Y.1.cls = some (Gm.m Γ).cls ∧ ∀ w ∈ TT, w.before (Gm.a Γ) (Gm.s Γ) = true) ∧ KS Θ (Gm.s Γ) ∧
  (Gm.R Γ).frames = Y.2.2.2.2.1 ∧ (Gm.R Γ).locals = Y.2.2.2.2.2 ∧ (Gm.nc Γ ≤ (Gm.R Γ).cells ∧ Gm.ns Γ ≤ (Gm.R Γ).slots) ∧ (Gm.t Γ).sig.returnType = Y.2.2.2.1 ∧ (Gm.t Γ).locks = false
/-- every number of the memory is one of the machine's -/
def Canon (σ : Mem) : Prop := ∀ i k, rngL (σ i k) ∧ (i ≠ 26 → i ≠ 28 → ¬ (i = 5 ∧ k = 8) → rng (σ i k))
def Run (Θ : Th) (Γ : Gm) (pc : Nat) (L : List (Nat × Value)) (st : List Value) (σ : Mem) : Prop :=
  Canon σ → ∀ (H : Heap) (ls : Array Slot) (locs : List Loc), lv_has ls (Gm.c Γ).maxLocals L → va_P (Th.D Θ) classes (cells Θ σ) H → va_S (AA Θ) (Gm.s Γ).heap H locs →
    W (Gm.p Γ) (Th.l Θ) (Gm.e Γ) (Gm.R Γ) (Gm.s Γ) (Gm.m Γ) (Gm.a Γ) (Gm.b Γ) (Gm.t Γ) (Gm.c Γ) H locs (Gm.nc Γ) (Gm.ns Γ) (Gm.Q Γ) (F0 (Gm.m Γ) pc ls st)
theorem R_canon {Θ : Th} {Γ : Gm} {pc : Nat} {L : List (Nat × Value)} {st : List Value} {σ : Mem} (k : Canon σ → Run Θ Γ pc L st σ) : Run Θ Γ pc L st σ := fun h => k h h
theorem Canon.i {σ : Mem} (h : Canon σ) (i : Nat) (k : Int) (h1 : i ≠ 26) (h2 : i ≠ 28) (h3 : i ≠ 5) : rng (σ i k) := (h i k).2 h1 h2 (fun q => h3 q.1)
theorem Canon.f {σ : Mem} (h : Canon σ) (k : Int) (h3 : k ≠ 8) : rng (σ 5 k) := (h 5 k).2 (by decide) (by decide) (fun q => h3 q.2)
theorem cn_up {σ : Mem} (h : Canon σ) {i : Nat} {k v : Int} (hv : rng v) : Canon (up σ i k v) := by
  intro i' k'
  unfold up
  split
  · exact ⟨by omega, fun _ _ _ => hv⟩
  · exact h i' k'
theorem cn_upL {σ : Mem} (h : Canon σ) {i : Nat} {k v : Int} (hv : rngL v) (hi : i = 26 ∨ i = 28 ∨ (i = 5 ∧ k = 8)) : Canon (up σ i k v) := by
  intro i' k'
  unfold up
  split
  · rename_i q
    obtain ⟨rfl, rfl⟩ := q
    exact ⟨hv, fun h1 h2 h3 => by omega⟩
  · exact h i' k'
section RULES
variable {Θ : Th} {Γ : Gm} {Y : Mt} {pc : Nat} {L L' : List (Nat × Value)} {st : List Value} {σ : Mem}
theorem R_sub (ks : List Nat) (hl : lv_pick L ks = L') (k : Run Θ Γ pc L' st σ) : Run Θ Γ pc L st σ :=
  fun hc H ls locs hL hP hS => k hc H ls locs (lv_sub hL ks hl) hP hS
theorem R_iconst (hB : Base Θ Γ Y) {n : Int} (hd : decode Y.2.1 pc = .ok (.iconst n, 1)) (k : Run Θ Γ (pc + 1) L (.int (I n) :: st) σ) : Run Θ Γ pc L st σ :=
  fun hc H ls locs hL hP hS => lv_iconst hB.1.1 hB.1.2.1 hd rfl (k hc H ls locs hL hP hS)
theorem R_bipush (hB : Base Θ Γ Y) {n : Int} (hd : decode Y.2.1 pc = .ok (.bipush n, 2)) (hn : (Int8.ofInt n).toInt32 = I n) (k : Run Θ Γ (pc + 2) L (.int (I n) :: st) σ) : Run Θ Γ pc L st σ :=
  fun hc H ls locs hL hP hS => lv_bipush hB.1.1 hB.1.2.1 hd hn (k hc H ls locs hL hP hS)
theorem R_sipush (hB : Base Θ Γ Y) {n : Int} (hd : decode Y.2.1 pc = .ok (.sipush n, 3)) (hn : (Int16.ofInt n).toInt32 = I n) (k : Run Θ Γ (pc + 3) L (.int (I n) :: st) σ) : Run Θ Γ pc L st σ :=
  fun hc H ls locs hL hP hS => lv_sipush hB.1.1 hB.1.2.1 hd hn (k hc H ls locs hL hP hS)
theorem R_lconst (hB : Base Θ Γ Y) {n : Fin 2} {z : Int} (hd : decode Y.2.1 pc = .ok (.lconst n, 1)) (hn : Int64.ofNat (n : Nat) = Jl z) (k : Run Θ Γ (pc + 1) L (.long (Jl z) :: st) σ) : Run Θ Γ pc L st σ :=
  fun hc H ls locs hL hP hS => lv_lconst hB.1.1 hB.1.2.1 hd hn (k hc H ls locs hL hP hS)
theorem R_ldc (hB : Base Θ Γ Y) {x : Nat} {z : Int} (hd : decode Y.2.1 pc = .ok (.ldc x, 2)) (hw : Cond.constant Y.1.cls x (I z) ∈ TT) (k : Run Θ Γ (pc + 2) L (.int (I z) :: st) σ) : Run Θ Γ pc L st σ :=
  fun hc H ls locs hL hP hS => lv_ldc hB.1.1 hB.1.2.1 hB.1.2.2.2.1 (hB.1.2.2.2.2 _ hw) hd (k hc H ls locs hL hP hS)
theorem R_ldcw (hB : Base Θ Γ Y) {x : Nat} {z : Int} (hd : decode Y.2.1 pc = .ok (.ldc_w x, 3)) (hw : Cond.constant Y.1.cls x (I z) ∈ TT) (k : Run Θ Γ (pc + 3) L (.int (I z) :: st) σ) : Run Θ Γ pc L st σ :=
  fun hc H ls locs hL hP hS => lv_ldcw hB.1.1 hB.1.2.1 hB.1.2.2.2.1 (hB.1.2.2.2.2 _ hw) hd (k hc H ls locs hL hP hS)
theorem R_ldc2 (hB : Base Θ Γ Y) {x : Nat} {z : Int} (hd : decode Y.2.1 pc = .ok (.ldc2_w x, 3)) (hw : Cond.constantLong Y.1.cls x (Jl z) ∈ TT) (k : Run Θ Γ (pc + 3) L (.long (Jl z) :: st) σ) : Run Θ Γ pc L st σ :=
  fun hc H ls locs hL hP hS => lv_ldc2 hB.1.1 hB.1.2.1 hB.1.2.2.2.1 (hB.1.2.2.2.2 _ hw) hd (k hc H ls locs hL hP hS)
theorem R_iload_n (hB : Base Θ Γ Y) {n : Fin 4} {j i : Nat} {x : Int32} (hd : decode Y.2.1 pc = .ok (.iload_n n, 1)) (hl : L[j]? = some (i, .int x)) (hi : (n : Nat) = i) (k : Run Θ Γ (pc + 1) L (.int x :: st) σ) : Run Θ Γ pc L st σ :=
  fun hc H ls locs hL hP hS => lv_iload_n hB.1.1 hB.1.2.1 hd hi (lv_at hL j hl) (k hc H ls locs hL hP hS)
theorem R_iload (hB : Base Θ Γ Y) {j i : Nat} {x : Int32} (hd : decode Y.2.1 pc = .ok (.iload i, 2)) (hl : L[j]? = some (i, .int x)) (k : Run Θ Γ (pc + 2) L (.int x :: st) σ) : Run Θ Γ pc L st σ :=
  fun hc H ls locs hL hP hS => lv_iload hB.1.1 hB.1.2.1 hd (lv_at hL j hl) (k hc H ls locs hL hP hS)
theorem R_lload_n (hB : Base Θ Γ Y) {n : Fin 4} {j i : Nat} {x : Int64} (hd : decode Y.2.1 pc = .ok (.lload_n n, 1)) (hl : L[j]? = some (i, .long x)) (hi : (n : Nat) = i) (k : Run Θ Γ (pc + 1) L (.long x :: st) σ) : Run Θ Γ pc L st σ :=
  fun hc H ls locs hL hP hS => lv_lload_n hB.1.1 hB.1.2.1 hd hi (lv_at hL j hl) (k hc H ls locs hL hP hS)
theorem R_lload (hB : Base Θ Γ Y) {j i : Nat} {x : Int64} (hd : decode Y.2.1 pc = .ok (.lload i, 2)) (hl : L[j]? = some (i, .long x)) (k : Run Θ Γ (pc + 2) L (.long x :: st) σ) : Run Θ Γ pc L st σ :=
  fun hc H ls locs hL hP hS => lv_lload hB.1.1 hB.1.2.1 hd (lv_at hL j hl) (k hc H ls locs hL hP hS)
theorem R_aload_n (hB : Base Θ Γ Y) {n : Fin 4} {j i : Nat} {x : Nat} (hd : decode Y.2.1 pc = .ok (.aload_n n, 1)) (hl : L[j]? = some (i, .ref x)) (hi : (n : Nat) = i) (k : Run Θ Γ (pc + 1) L (.ref x :: st) σ) : Run Θ Γ pc L st σ :=
  fun hc H ls locs hL hP hS => lv_aload_n hB.1.1 hB.1.2.1 hd hi (lv_at hL j hl) (k hc H ls locs hL hP hS)
theorem R_aload (hB : Base Θ Γ Y) {j i : Nat} {x : Nat} (hd : decode Y.2.1 pc = .ok (.aload i, 2)) (hl : L[j]? = some (i, .ref x)) (k : Run Θ Γ (pc + 2) L (.ref x :: st) σ) : Run Θ Γ pc L st σ :=
  fun hc H ls locs hL hP hS => lv_aload hB.1.1 hB.1.2.1 hd (lv_at hL j hl) (k hc H ls locs hL hP hS)
theorem R_istore_n (hB : Base Θ Γ Y) {n : Fin 4} {i : Nat} {x : Int32} (hd : decode Y.2.1 pc = .ok (.istore_n n, 1)) (hi : (n : Nat) = i) (hn : i < Y.2.2.1) (hl : (i, Value.int x) :: L.filter (fun q => !(q.1 == i) && !(q.1 + 1 == i && q.2.category == 2)) = L') (k : Run Θ Γ (pc + 1) L' st σ) : Run Θ Γ pc L (.int x :: st) σ :=
  fun hc H ls locs hL hP hS => lv_istore_n hB.1.1 hB.1.2.1 hd hi hL (by rw [hB.1.2.2.1]; exact hn) hl (fun ls1 h1 => k hc H ls1 locs h1 hP hS)
theorem R_istore (hB : Base Θ Γ Y) {i : Nat} {x : Int32} (hd : decode Y.2.1 pc = .ok (.istore i, 2)) (hn : i < Y.2.2.1) (hl : (i, Value.int x) :: L.filter (fun q => !(q.1 == i) && !(q.1 + 1 == i && q.2.category == 2)) = L') (k : Run Θ Γ (pc + 2) L' st σ) : Run Θ Γ pc L (.int x :: st) σ :=
  fun hc H ls locs hL hP hS => lv_istore hB.1.1 hB.1.2.1 hd hL (by rw [hB.1.2.2.1]; exact hn) hl (fun ls1 h1 => k hc H ls1 locs h1 hP hS)
theorem R_astore_n (hB : Base Θ Γ Y) {n : Fin 4} {i : Nat} {x : Nat} (hd : decode Y.2.1 pc = .ok (.astore_n n, 1)) (hi : (n : Nat) = i) (hn : i < Y.2.2.1) (hl : (i, Value.ref x) :: L.filter (fun q => !(q.1 == i) && !(q.1 + 1 == i && q.2.category == 2)) = L') (k : Run Θ Γ (pc + 1) L' st σ) : Run Θ Γ pc L (.ref x :: st) σ :=
  fun hc H ls locs hL hP hS => lv_astore_n hB.1.1 hB.1.2.1 hd hi hL (by rw [hB.1.2.2.1]; exact hn) hl (fun ls1 h1 => k hc H ls1 locs h1 hP hS)
theorem R_astore (hB : Base Θ Γ Y) {i : Nat} {x : Nat} (hd : decode Y.2.1 pc = .ok (.astore i, 2)) (hn : i < Y.2.2.1) (hl : (i, Value.ref x) :: L.filter (fun q => !(q.1 == i) && !(q.1 + 1 == i && q.2.category == 2)) = L') (k : Run Θ Γ (pc + 2) L' st σ) : Run Θ Γ pc L (.ref x :: st) σ :=
  fun hc H ls locs hL hP hS => lv_astore hB.1.1 hB.1.2.1 hd hL (by rw [hB.1.2.2.1]; exact hn) hl (fun ls1 h1 => k hc H ls1 locs h1 hP hS)
theorem R_lstore_n (hB : Base Θ Γ Y) {n : Fin 4} {i : Nat} {x : Int64} (hd : decode Y.2.1 pc = .ok (.lstore_n n, 1)) (hi : (n : Nat) = i) (hn : i + 1 < Y.2.2.1) (hl : (i, Value.long x) :: L.filter (fun q => !(q.1 == i) && (!(q.1 == i + 1) && !(q.1 + 1 == i && q.2.category == 2))) = L') (k : Run Θ Γ (pc + 1) L' st σ) : Run Θ Γ pc L (.long x :: st) σ :=
  fun hc H ls locs hL hP hS => lv_lstore_n hB.1.1 hB.1.2.1 hd hi hL (by rw [hB.1.2.2.1]; exact hn) hl (fun ls1 h1 => k hc H ls1 locs h1 hP hS)
theorem R_lstore (hB : Base Θ Γ Y) {i : Nat} {x : Int64} (hd : decode Y.2.1 pc = .ok (.lstore i, 2)) (hn : i + 1 < Y.2.2.1) (hl : (i, Value.long x) :: L.filter (fun q => !(q.1 == i) && (!(q.1 == i + 1) && !(q.1 + 1 == i && q.2.category == 2))) = L') (k : Run Θ Γ (pc + 2) L' st σ) : Run Θ Γ pc L (.long x :: st) σ :=
  fun hc H ls locs hL hP hS => lv_lstore hB.1.1 hB.1.2.1 hd hL (by rw [hB.1.2.2.1]; exact hn) hl (fun ls1 h1 => k hc H ls1 locs h1 hP hS)
theorem R_iinc (hB : Base Θ Γ Y) {i j : Nat} {n a : Int} (hd : decode Y.2.1 pc = .ok (.iinc i n, 3)) (hj : L[j]? = some (i, .int (I a))) (hn : i < Y.2.2.1) (hl : (i, Value.int (I (a + n))) :: L.filter (fun q => !(q.1 == i) && !(q.1 + 1 == i && q.2.category == 2)) = L') (k : Run Θ Γ (pc + 3) L' st σ) : Run Θ Γ pc L st σ :=
  fun hc H ls locs hL hP hS => lv_iinc hB.1.1 hB.1.2.1 hd hL hj (I_add a n) (by rw [hB.1.2.2.1]; exact hn) hl (fun ls1 h1 => k hc H ls1 locs h1 hP hS)
theorem R_iadd (hB : Base Θ Γ Y) {a b : Int} (hd : decode Y.2.1 pc = .ok (.iadd, 1)) (k : Run Θ Γ (pc + 1) L (.int (I (a + b)) :: st) σ) : Run Θ Γ pc L (.int (I b) :: .int (I a) :: st) σ :=
  fun hc H ls locs hL hP hS => lv_iadd hB.1.1 hB.1.2.1 hd (by rw [I_add]; exact k hc H ls locs hL hP hS)
theorem R_isub (hB : Base Θ Γ Y) {a b : Int} (hd : decode Y.2.1 pc = .ok (.isub, 1)) (k : Run Θ Γ (pc + 1) L (.int (I (a - b)) :: st) σ) : Run Θ Γ pc L (.int (I b) :: .int (I a) :: st) σ :=
  fun hc H ls locs hL hP hS => lv_isub hB.1.1 hB.1.2.1 hd (by rw [I_sub]; exact k hc H ls locs hL hP hS)
theorem R_imul (hB : Base Θ Γ Y) {a b : Int} (hd : decode Y.2.1 pc = .ok (.imul, 1)) (k : Run Θ Γ (pc + 1) L (.int (I (a * b)) :: st) σ) : Run Θ Γ pc L (.int (I b) :: .int (I a) :: st) σ :=
  fun hc H ls locs hL hP hS => lv_imul hB.1.1 hB.1.2.1 hd (by rw [I_mul]; exact k hc H ls locs hL hP hS)
theorem R_ladd (hB : Base Θ Γ Y) {a b : Int} (hd : decode Y.2.1 pc = .ok (.ladd, 1)) (k : Run Θ Γ (pc + 1) L (.long (Jl (a + b)) :: st) σ) : Run Θ Γ pc L (.long (Jl b) :: .long (Jl a) :: st) σ :=
  fun hc H ls locs hL hP hS => lv_ladd hB.1.1 hB.1.2.1 hd (by rw [Jl_add]; exact k hc H ls locs hL hP hS)
theorem R_lsub (hB : Base Θ Γ Y) {a b : Int} (hd : decode Y.2.1 pc = .ok (.lsub, 1)) (k : Run Θ Γ (pc + 1) L (.long (Jl (a - b)) :: st) σ) : Run Θ Γ pc L (.long (Jl b) :: .long (Jl a) :: st) σ :=
  fun hc H ls locs hL hP hS => lv_lsub hB.1.1 hB.1.2.1 hd (by rw [Jl_sub]; exact k hc H ls locs hL hP hS)
theorem R_lmul (hB : Base Θ Γ Y) {a b : Int} (hd : decode Y.2.1 pc = .ok (.lmul, 1)) (k : Run Θ Γ (pc + 1) L (.long (Jl (a * b)) :: st) σ) : Run Θ Γ pc L (.long (Jl b) :: .long (Jl a) :: st) σ :=
  fun hc H ls locs hL hP hS => lv_lmul hB.1.1 hB.1.2.1 hd (by rw [Jl_mul]; exact k hc H ls locs hL hP hS)
/-- an operation whose number is told by an equation -/
theorem R_iand (hB : Base Θ Γ Y) {a b : Int} (z : Int) (hz : I a &&& I b = I z) (hd : decode Y.2.1 pc = .ok (.iand, 1)) (k : Run Θ Γ (pc + 1) L (.int (I z) :: st) σ) : Run Θ Γ pc L (.int (I b) :: .int (I a) :: st) σ :=
  fun hc H ls locs hL hP hS => lv_iand hB.1.1 hB.1.2.1 hd (by rw [hz]; exact k hc H ls locs hL hP hS)
theorem R_ior (hB : Base Θ Γ Y) {a b : Int} (z : Int) (hz : I a ||| I b = I z) (hd : decode Y.2.1 pc = .ok (.ior, 1)) (k : Run Θ Γ (pc + 1) L (.int (I z) :: st) σ) : Run Θ Γ pc L (.int (I b) :: .int (I a) :: st) σ :=
  fun hc H ls locs hL hP hS => lv_ior hB.1.1 hB.1.2.1 hd (by rw [hz]; exact k hc H ls locs hL hP hS)
theorem R_ishl (hB : Base Θ Γ Y) {a b : Int} (z : Int) (hz : I a <<< (I b &&& 31) = I z) (hd : decode Y.2.1 pc = .ok (.ishl, 1)) (k : Run Θ Γ (pc + 1) L (.int (I z) :: st) σ) : Run Θ Γ pc L (.int (I b) :: .int (I a) :: st) σ :=
  fun hc H ls locs hL hP hS => lv_ishl hB.1.1 hB.1.2.1 hd (by rw [hz]; exact k hc H ls locs hL hP hS)
theorem R_ishr (hB : Base Θ Γ Y) {a b : Int} (z : Int) (hz : I a >>> (I b &&& 31) = I z) (hd : decode Y.2.1 pc = .ok (.ishr, 1)) (k : Run Θ Γ (pc + 1) L (.int (I z) :: st) σ) : Run Θ Γ pc L (.int (I b) :: .int (I a) :: st) σ :=
  fun hc H ls locs hL hP hS => lv_ishr hB.1.1 hB.1.2.1 hd (by rw [hz]; exact k hc H ls locs hL hP hS)
theorem R_iushr (hB : Base Θ Γ Y) {a b : Int} (z : Int) (hz : ((I a).toUInt32 >>> ((I b).toUInt32 &&& Int32.toUInt32 31)).toInt32 = I z) (hd : decode Y.2.1 pc = .ok (.iushr, 1)) (k : Run Θ Γ (pc + 1) L (.int (I z) :: st) σ) : Run Θ Γ pc L (.int (I b) :: .int (I a) :: st) σ :=
  fun hc H ls locs hL hP hS => lv_iushr hB.1.1 hB.1.2.1 hd hz (k hc H ls locs hL hP hS)
theorem R_irem (hB : Base Θ Γ Y) {a b : Int} (z : Int) (hne : ¬ I b = 0) (hz : I a - I a / I b * I b = I z) (hd : decode Y.2.1 pc = .ok (.irem, 1)) (k : Run Θ Γ (pc + 1) L (.int (I z) :: st) σ) : Run Θ Γ pc L (.int (I b) :: .int (I a) :: st) σ :=
  fun hc H ls locs hL hP hS => lv_irem hB.1.1 hB.1.2.1 hd hne (by rw [hz]; exact k hc H ls locs hL hP hS)
theorem R_idiv (hB : Base Θ Γ Y) {a b : Int} (z : Int) (hne : ¬ I b = 0) (hz : I a / I b = I z) (hd : decode Y.2.1 pc = .ok (.idiv, 1)) (k : Run Θ Γ (pc + 1) L (.int (I z) :: st) σ) : Run Θ Γ pc L (.int (I b) :: .int (I a) :: st) σ :=
  fun hc H ls locs hL hP hS => lv_idiv hB.1.1 hB.1.2.1 hd hne (by rw [hz]; exact k hc H ls locs hL hP hS)
theorem R_ineg (hB : Base Θ Γ Y) {a : Int} (hd : decode Y.2.1 pc = .ok (.ineg, 1)) (k : Run Θ Γ (pc + 1) L (.int (I (-a)) :: st) σ) : Run Θ Γ pc L (.int (I a) :: st) σ :=
  fun hc H ls locs hL hP hS => lv_ineg hB.1.1 hB.1.2.1 hd (by rw [show -I a = I (-a) from (Int32.ofInt_neg a).symm]; exact k hc H ls locs hL hP hS)
theorem R_ldiv (hB : Base Θ Γ Y) {a b : Int} (z : Int) (hne : ¬ Jl b = 0) (hz : Jl a / Jl b = Jl z) (hd : decode Y.2.1 pc = .ok (.ldiv, 1)) (k : Run Θ Γ (pc + 1) L (.long (Jl z) :: st) σ) : Run Θ Γ pc L (.long (Jl b) :: .long (Jl a) :: st) σ :=
  fun hc H ls locs hL hP hS => lv_ldiv hB.1.1 hB.1.2.1 hd hne (by rw [hz]; exact k hc H ls locs hL hP hS)
theorem R_lrem (hB : Base Θ Γ Y) {a b : Int} (z : Int) (hne : ¬ Jl b = 0) (hz : Jl a - Jl a / Jl b * Jl b = Jl z) (hd : decode Y.2.1 pc = .ok (.lrem, 1)) (k : Run Θ Γ (pc + 1) L (.long (Jl z) :: st) σ) : Run Θ Γ pc L (.long (Jl b) :: .long (Jl a) :: st) σ :=
  fun hc H ls locs hL hP hS => lv_lrem hB.1.1 hB.1.2.1 hd hne (by rw [hz]; exact k hc H ls locs hL hP hS)
theorem R_land (hB : Base Θ Γ Y) {a b : Int} (z : Int) (hz : Jl a &&& Jl b = Jl z) (hd : decode Y.2.1 pc = .ok (.land, 1)) (k : Run Θ Γ (pc + 1) L (.long (Jl z) :: st) σ) : Run Θ Γ pc L (.long (Jl b) :: .long (Jl a) :: st) σ :=
  fun hc H ls locs hL hP hS => lv_land hB.1.1 hB.1.2.1 hd (by rw [hz]; exact k hc H ls locs hL hP hS)
theorem R_lor (hB : Base Θ Γ Y) {a b : Int} (z : Int) (hz : Jl a ||| Jl b = Jl z) (hd : decode Y.2.1 pc = .ok (.lor, 1)) (k : Run Θ Γ (pc + 1) L (.long (Jl z) :: st) σ) : Run Θ Γ pc L (.long (Jl b) :: .long (Jl a) :: st) σ :=
  fun hc H ls locs hL hP hS => lv_lor hB.1.1 hB.1.2.1 hd (by rw [hz]; exact k hc H ls locs hL hP hS)
theorem R_lshl (hB : Base Θ Γ Y) {a b : Int} (z : Int) (hz : Jl a <<< ((I b).toInt64 &&& 63) = Jl z) (hd : decode Y.2.1 pc = .ok (.lshl, 1)) (k : Run Θ Γ (pc + 1) L (.long (Jl z) :: st) σ) : Run Θ Γ pc L (.int (I b) :: .long (Jl a) :: st) σ :=
  fun hc H ls locs hL hP hS => lv_lshl hB.1.1 hB.1.2.1 hd hz (k hc H ls locs hL hP hS)
theorem R_lshr (hB : Base Θ Γ Y) {a b : Int} (z : Int) (hz : Jl a >>> ((I b).toInt64 &&& 63) = Jl z) (hd : decode Y.2.1 pc = .ok (.lshr, 1)) (k : Run Θ Γ (pc + 1) L (.long (Jl z) :: st) σ) : Run Θ Γ pc L (.int (I b) :: .long (Jl a) :: st) σ :=
  fun hc H ls locs hL hP hS => lv_lshr hB.1.1 hB.1.2.1 hd hz (k hc H ls locs hL hP hS)
theorem R_i2l (hB : Base Θ Γ Y) {a : Int} (ha : rng a) (hd : decode Y.2.1 pc = .ok (.i2l, 1)) (k : Run Θ Γ (pc + 1) L (.long (Jl a) :: st) σ) : Run Θ Γ pc L (.int (I a) :: st) σ :=
  fun hc H ls locs hL hP hS => lv_i2l hB.1.1 hB.1.2.1 hd (Int32.toInt64_ofInt ha.1 (by have := ha.2; show a ≤ 2147483647; omega)) (k hc H ls locs hL hP hS)
theorem R_l2i (hB : Base Θ Γ Y) {a : Int} (hd : decode Y.2.1 pc = .ok (.l2i, 1)) (k : Run Θ Γ (pc + 1) L (.int (I a) :: st) σ) : Run Θ Γ pc L (.long (Jl a) :: st) σ :=
  fun hc H ls locs hL hP hS => lv_l2i hB.1.1 hB.1.2.1 hd Int64.toInt32_ofInt (k hc H ls locs hL hP hS)
theorem R_i2b (hB : Base Θ Γ Y) {a : Int} (z : Int) (hz : (I a).toInt8.toInt32 = I z) (hd : decode Y.2.1 pc = .ok (.i2b, 1)) (k : Run Θ Γ (pc + 1) L (.int (I z) :: st) σ) : Run Θ Γ pc L (.int (I a) :: st) σ :=
  fun hc H ls locs hL hP hS => lv_i2b hB.1.1 hB.1.2.1 hd hz (k hc H ls locs hL hP hS)
theorem R_i2s (hB : Base Θ Γ Y) {a : Int} (z : Int) (hz : (I a).toInt16.toInt32 = I z) (hd : decode Y.2.1 pc = .ok (.i2s, 1)) (k : Run Θ Γ (pc + 1) L (.int (I z) :: st) σ) : Run Θ Γ pc L (.int (I a) :: st) σ :=
  fun hc H ls locs hL hP hS => lv_i2s hB.1.1 hB.1.2.1 hd hz (k hc H ls locs hL hP hS)
theorem R_i2c (hB : Base Θ Γ Y) {a : Int} (z : Int) (hz : ((I a).toUInt32 % 65536).toInt32 = I z) (hd : decode Y.2.1 pc = .ok (.i2c, 1)) (k : Run Θ Γ (pc + 1) L (.int (I z) :: st) σ) : Run Θ Γ pc L (.int (I a) :: st) σ :=
  fun hc H ls locs hL hP hS => lv_i2c hB.1.1 hB.1.2.1 hd hz (k hc H ls locs hL hP hS)
theorem R_dup (hB : Base Θ Γ Y) {v : Value} (hd : decode Y.2.1 pc = .ok (.dup, 1)) (hv : v.category = 1) (k : Run Θ Γ (pc + 1) L (v :: v :: st) σ) : Run Θ Γ pc L (v :: st) σ :=
  fun hc H ls locs hL hP hS => lv_dup hB.1.1 hB.1.2.1 hd hv (k hc H ls locs hL hP hS)
theorem R_dup2 (hB : Base Θ Γ Y) {v w : Value} (hd : decode Y.2.1 pc = .ok (.dup2, 1)) (hv : v.category = 1) (hw : w.category = 1) (k : Run Θ Γ (pc + 1) L (v :: w :: v :: w :: st) σ) : Run Θ Γ pc L (v :: w :: st) σ :=
  fun hc H ls locs hL hP hS => lv_dup2_11 hB.1.1 hB.1.2.1 hd hv hw (k hc H ls locs hL hP hS)
theorem R_pop (hB : Base Θ Γ Y) {v : Value} (hd : decode Y.2.1 pc = .ok (.pop, 1)) (hv : v.category = 1) (k : Run Θ Γ (pc + 1) L st σ) : Run Θ Γ pc L (v :: st) σ :=
  fun hc H ls locs hL hP hS => lv_pop hB.1.1 hB.1.2.1 hd hv (k hc H ls locs hL hP hS)
theorem R_goto (hB : Base Θ Γ Y) {off : Int} (t : Nat) (hd : decode Y.2.1 pc = .ok (.goto off, 3)) (ht : (pc : Int) + off = t) (k : Run Θ Γ t L st σ) : Run Θ Γ pc L st σ :=
  fun hc H ls locs hL hP hS => lv_goto hB.1.1 hB.1.2.1 hd ht (k hc H ls locs hL hP hS)
theorem R_if_eq (hB : Base Θ Γ Y) {off a : Int} (t : Nat) (ha : rng a) (hd : decode Y.2.1 pc = .ok (.ifCond .eq off, 3)) (ht : (pc : Int) + off = t) (kt : a = 0 → Run Θ Γ t L st σ) (kf : a ≠ 0 → Run Θ Γ (pc + 3) L st σ) : Run Θ Γ pc L (.int (I a) :: st) σ :=
  fun hc H ls locs hL hP hS => lv_if_eq hB.1.1 hB.1.2.1 hd ht (fun h => kt ((I_inj ha (by decide)).mp h) hc H ls locs hL hP hS) (fun h => kf (fun q => h ((I_inj ha (by decide)).mpr q)) hc H ls locs hL hP hS)
theorem R_if_ne (hB : Base Θ Γ Y) {off a : Int} (t : Nat) (ha : rng a) (hd : decode Y.2.1 pc = .ok (.ifCond .ne off, 3)) (ht : (pc : Int) + off = t) (kt : a ≠ 0 → Run Θ Γ t L st σ) (kf : a = 0 → Run Θ Γ (pc + 3) L st σ) : Run Θ Γ pc L (.int (I a) :: st) σ :=
  fun hc H ls locs hL hP hS => lv_if_ne hB.1.1 hB.1.2.1 hd ht (fun h => kt (fun q => h ((I_inj ha (by decide)).mpr q)) hc H ls locs hL hP hS) (fun h => kf ((I_inj ha (by decide)).mp h) hc H ls locs hL hP hS)
theorem R_if_lt (hB : Base Θ Γ Y) {off a : Int} (t : Nat) (ha : rng a) (hd : decode Y.2.1 pc = .ok (.ifCond .lt off, 3)) (ht : (pc : Int) + off = t) (kt : a < 0 → Run Θ Γ t L st σ) (kf : 0 ≤ a → Run Θ Γ (pc + 3) L st σ) : Run Θ Γ pc L (.int (I a) :: st) σ :=
  fun hc H ls locs hL hP hS => lv_if_lt hB.1.1 hB.1.2.1 hd ht (fun h => kt ((I_lt ha (by decide)).mp h) hc H ls locs hL hP hS) (fun h => kf (Int.not_lt.mp (fun q => h ((I_lt ha (by decide)).mpr q))) hc H ls locs hL hP hS)
theorem R_if_ge (hB : Base Θ Γ Y) {off a : Int} (t : Nat) (ha : rng a) (hd : decode Y.2.1 pc = .ok (.ifCond .ge off, 3)) (ht : (pc : Int) + off = t) (kt : 0 ≤ a → Run Θ Γ t L st σ) (kf : a < 0 → Run Θ Γ (pc + 3) L st σ) : Run Θ Γ pc L (.int (I a) :: st) σ :=
  fun hc H ls locs hL hP hS => lv_if_ge hB.1.1 hB.1.2.1 hd ht (fun h => kt ((I_le (by decide) ha).mp h) hc H ls locs hL hP hS) (fun h => kf (Int.not_le.mp (fun q => h ((I_le (by decide) ha).mpr q))) hc H ls locs hL hP hS)
theorem R_if_gt (hB : Base Θ Γ Y) {off a : Int} (t : Nat) (ha : rng a) (hd : decode Y.2.1 pc = .ok (.ifCond .gt off, 3)) (ht : (pc : Int) + off = t) (kt : 0 < a → Run Θ Γ t L st σ) (kf : a ≤ 0 → Run Θ Γ (pc + 3) L st σ) : Run Θ Γ pc L (.int (I a) :: st) σ :=
  fun hc H ls locs hL hP hS => lv_if_gt hB.1.1 hB.1.2.1 hd ht (fun h => kt ((I_lt (by decide) ha).mp h) hc H ls locs hL hP hS) (fun h => kf (Int.not_lt.mp (fun q => h ((I_lt (by decide) ha).mpr q))) hc H ls locs hL hP hS)
theorem R_if_le (hB : Base Θ Γ Y) {off a : Int} (t : Nat) (ha : rng a) (hd : decode Y.2.1 pc = .ok (.ifCond .le off, 3)) (ht : (pc : Int) + off = t) (kt : a ≤ 0 → Run Θ Γ t L st σ) (kf : 0 < a → Run Θ Γ (pc + 3) L st σ) : Run Θ Γ pc L (.int (I a) :: st) σ :=
  fun hc H ls locs hL hP hS => lv_if_le hB.1.1 hB.1.2.1 hd ht (fun h => kt ((I_le ha (by decide)).mp h) hc H ls locs hL hP hS) (fun h => kf (Int.not_le.mp (fun q => h ((I_le ha (by decide)).mpr q))) hc H ls locs hL hP hS)
theorem R_icmp_eq (hB : Base Θ Γ Y) {off a b : Int} (t : Nat) (ha : rng a) (hb : rng b) (hd : decode Y.2.1 pc = .ok (.if_icmp .eq off, 3)) (ht : (pc : Int) + off = t) (kt : a = b → Run Θ Γ t L st σ) (kf : a ≠ b → Run Θ Γ (pc + 3) L st σ) : Run Θ Γ pc L (.int (I b) :: .int (I a) :: st) σ :=
  fun hc H ls locs hL hP hS => lv_icmp_eq hB.1.1 hB.1.2.1 hd ht (fun h => kt ((I_inj ha hb).mp h) hc H ls locs hL hP hS) (fun h => kf (fun q => h ((I_inj ha hb).mpr q)) hc H ls locs hL hP hS)
theorem R_icmp_ne (hB : Base Θ Γ Y) {off a b : Int} (t : Nat) (ha : rng a) (hb : rng b) (hd : decode Y.2.1 pc = .ok (.if_icmp .ne off, 3)) (ht : (pc : Int) + off = t) (kt : a ≠ b → Run Θ Γ t L st σ) (kf : a = b → Run Θ Γ (pc + 3) L st σ) : Run Θ Γ pc L (.int (I b) :: .int (I a) :: st) σ :=
  fun hc H ls locs hL hP hS => lv_icmp_ne hB.1.1 hB.1.2.1 hd ht (fun h => kt (fun q => h ((I_inj ha hb).mpr q)) hc H ls locs hL hP hS) (fun h => kf ((I_inj ha hb).mp h) hc H ls locs hL hP hS)
theorem R_icmp_lt (hB : Base Θ Γ Y) {off a b : Int} (t : Nat) (ha : rng a) (hb : rng b) (hd : decode Y.2.1 pc = .ok (.if_icmp .lt off, 3)) (ht : (pc : Int) + off = t) (kt : a < b → Run Θ Γ t L st σ) (kf : b ≤ a → Run Θ Γ (pc + 3) L st σ) : Run Θ Γ pc L (.int (I b) :: .int (I a) :: st) σ :=
  fun hc H ls locs hL hP hS => lv_icmp_lt hB.1.1 hB.1.2.1 hd ht (fun h => kt ((I_lt ha hb).mp h) hc H ls locs hL hP hS) (fun h => kf (Int.not_lt.mp (fun q => h ((I_lt ha hb).mpr q))) hc H ls locs hL hP hS)
theorem R_icmp_ge (hB : Base Θ Γ Y) {off a b : Int} (t : Nat) (ha : rng a) (hb : rng b) (hd : decode Y.2.1 pc = .ok (.if_icmp .ge off, 3)) (ht : (pc : Int) + off = t) (kt : b ≤ a → Run Θ Γ t L st σ) (kf : a < b → Run Θ Γ (pc + 3) L st σ) : Run Θ Γ pc L (.int (I b) :: .int (I a) :: st) σ :=
  fun hc H ls locs hL hP hS => lv_icmp_ge hB.1.1 hB.1.2.1 hd ht (fun h => kt ((I_le hb ha).mp h) hc H ls locs hL hP hS) (fun h => kf (Int.not_le.mp (fun q => h ((I_le hb ha).mpr q))) hc H ls locs hL hP hS)
theorem R_icmp_gt (hB : Base Θ Γ Y) {off a b : Int} (t : Nat) (ha : rng a) (hb : rng b) (hd : decode Y.2.1 pc = .ok (.if_icmp .gt off, 3)) (ht : (pc : Int) + off = t) (kt : b < a → Run Θ Γ t L st σ) (kf : a ≤ b → Run Θ Γ (pc + 3) L st σ) : Run Θ Γ pc L (.int (I b) :: .int (I a) :: st) σ :=
  fun hc H ls locs hL hP hS => lv_icmp_gt hB.1.1 hB.1.2.1 hd ht (fun h => kt ((I_lt hb ha).mp h) hc H ls locs hL hP hS) (fun h => kf (Int.not_lt.mp (fun q => h ((I_lt hb ha).mpr q))) hc H ls locs hL hP hS)
theorem R_icmp_le (hB : Base Θ Γ Y) {off a b : Int} (t : Nat) (ha : rng a) (hb : rng b) (hd : decode Y.2.1 pc = .ok (.if_icmp .le off, 3)) (ht : (pc : Int) + off = t) (kt : a ≤ b → Run Θ Γ t L st σ) (kf : b < a → Run Θ Γ (pc + 3) L st σ) : Run Θ Γ pc L (.int (I b) :: .int (I a) :: st) σ :=
  fun hc H ls locs hL hP hS => lv_icmp_le hB.1.1 hB.1.2.1 hd ht (fun h => kt ((I_le ha hb).mp h) hc H ls locs hL hP hS) (fun h => kf (Int.not_le.mp (fun q => h ((I_le ha hb).mpr q))) hc H ls locs hL hP hS)
end RULES
