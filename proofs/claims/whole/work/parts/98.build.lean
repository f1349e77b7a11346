/-! constructors: a machine's walk over a world that grows -/
def ctys (ca : Nat → ClassId) : List (ClassId × FieldType) := [(ca 0, .int), (ca 1, .long), (ca 2, .boolean), (ca 3, .object RX6), (ca 4, .object RX4), (ca 5, .object RX3)]
def Bb (D : va_G) (ca : Nat → ClassId) (Γ : Gm) (Y : Mt) (A : Nat → Prop) (nc ns : Nat) : Prop := ((Gm.p Γ).tables.exec = Jvm.exec ∧ (Gm.c Γ).code = Y.2.1 ∧ (Gm.c Γ).maxLocals = Y.2.2.1 ∧ (Gm.s Γ).vm.findClass Y.1.cls = some (Gm.m Γ).cls ∧ ∀ w ∈ TT, w.before (Gm.a Γ) (Gm.s Γ) = true) ∧ va_K D classes (ctys ca) (Gm.s Γ) ∧ (∀ q, (Gm.s Γ).heap.size ≤ q → A q) ∧ (Gm.R Γ).frames = Y.2.2.2.2.1 ∧ (Gm.R Γ).locals = Y.2.2.2.2.2 ∧ (Gm.R Γ).cells = nc ∧ (Gm.R Γ).slots = ns
def Bld (l : Launch) (D : va_G) (Γ : Gm) (A : Nat → Prop) (pc : Nat) (L : List (Nat × Value)) (st : List Value) (ws : va_W) (n k : Nat) : Prop := ∀ (H : Heap) (ls : Array Slot) (locs : List Loc), lv_has ls (Gm.c Γ).maxLocals L → va_P D classes ws H → va_D A ws → va_S A (Gm.s Γ).heap H locs →
  W (Gm.p Γ) l (Gm.e Γ) (Gm.R Γ) (Gm.s Γ) (Gm.m Γ) (Gm.a Γ) (Gm.b Γ) (Gm.t Γ) (Gm.c Γ) H locs n k (Gm.Q Γ) (F0 (Gm.m Γ) pc ls st)
section BUILD
variable {l : Launch} {D : va_G} {ca : Nat → ClassId} {Γ : Gm} {Y : Mt} {A : Nat → Prop} {nc ns pc n0 k0 : Nat} {L L' : List (Nat × Value)} {st rest : List Value} {ws : va_W}
theorem B_ws {ws' : va_W} (h : ws' = ws) (k : Bld l D Γ A pc L st ws' n0 k0) : Bld l D Γ A pc L st ws n0 k0 := by rw [← h]; exact k
theorem B_widen {n1 k1 : Nat} (h1 : n0 ≤ n1) (h2 : k0 ≤ k1) (k : Bld l D Γ A pc L st ws n1 k1) : Bld l D Γ A pc L st ws n0 k0 :=
  fun H ls locs hL hP hD hS => W.widen (k := n1) (n := k1) h1 h2 (k H ls locs hL hP hD hS)
theorem B_aload_n (hB : Bb D ca Γ Y A nc ns) {n : Fin 4} {j i : Nat} {x : Nat} (hd : decode Y.2.1 pc = .ok (.aload_n n, 1)) (hl : L[j]? = some (i, .ref x)) (hi : (n : Nat) = i) (k : Bld l D Γ A (pc + 1) L (.ref x :: st) ws n0 k0) : Bld l D Γ A pc L st ws n0 k0 :=
  fun H ls locs hL hP hD hS => lv_aload_n hB.1.1 hB.1.2.1 hd hi (lv_at hL j hl) (k H ls locs hL hP hD hS)
theorem B_aload (hB : Bb D ca Γ Y A nc ns) {j i : Nat} {x : Nat} (hd : decode Y.2.1 pc = .ok (.aload i, 2)) (hl : L[j]? = some (i, .ref x)) (k : Bld l D Γ A (pc + 2) L (.ref x :: st) ws n0 k0) : Bld l D Γ A pc L st ws n0 k0 :=
  fun H ls locs hL hP hD hS => lv_aload hB.1.1 hB.1.2.1 hd (lv_at hL j hl) (k H ls locs hL hP hD hS)
theorem B_iload_n (hB : Bb D ca Γ Y A nc ns) {n : Fin 4} {j i : Nat} {x : Int32} (hd : decode Y.2.1 pc = .ok (.iload_n n, 1)) (hl : L[j]? = some (i, .int x)) (hi : (n : Nat) = i) (k : Bld l D Γ A (pc + 1) L (.int x :: st) ws n0 k0) : Bld l D Γ A pc L st ws n0 k0 :=
  fun H ls locs hL hP hD hS => lv_iload_n hB.1.1 hB.1.2.1 hd hi (lv_at hL j hl) (k H ls locs hL hP hD hS)
theorem B_iconst (hB : Bb D ca Γ Y A nc ns) {n : Int} (hd : decode Y.2.1 pc = .ok (.iconst n, 1)) (k : Bld l D Γ A (pc + 1) L (.int (I n) :: st) ws n0 k0) : Bld l D Γ A pc L st ws n0 k0 :=
  fun H ls locs hL hP hD hS => lv_iconst hB.1.1 hB.1.2.1 hd rfl (k H ls locs hL hP hD hS)
theorem B_bipush (hB : Bb D ca Γ Y A nc ns) {n : Int} (hd : decode Y.2.1 pc = .ok (.bipush n, 2)) (hn : (Int8.ofInt n).toInt32 = I n) (k : Bld l D Γ A (pc + 2) L (.int (I n) :: st) ws n0 k0) : Bld l D Γ A pc L st ws n0 k0 :=
  fun H ls locs hL hP hD hS => lv_bipush hB.1.1 hB.1.2.1 hd hn (k H ls locs hL hP hD hS)
theorem B_sipush (hB : Bb D ca Γ Y A nc ns) {n : Int} (hd : decode Y.2.1 pc = .ok (.sipush n, 3)) (hn : (Int16.ofInt n).toInt32 = I n) (k : Bld l D Γ A (pc + 3) L (.int (I n) :: st) ws n0 k0) : Bld l D Γ A pc L st ws n0 k0 :=
  fun H ls locs hL hP hD hS => lv_sipush hB.1.1 hB.1.2.1 hd hn (k H ls locs hL hP hD hS)
theorem B_dup (hB : Bb D ca Γ Y A nc ns) {v : Value} (hd : decode Y.2.1 pc = .ok (.dup, 1)) (hc : v.category = 1) (k : Bld l D Γ A (pc + 1) L (v :: v :: st) ws n0 k0) : Bld l D Γ A pc L (v :: st) ws n0 k0 :=
  fun H ls locs hL hP hD hS => lv_dup hB.1.1 hB.1.2.1 hd hc (k H ls locs hL hP hD hS)
theorem B_istore_n (hB : Bb D ca Γ Y A nc ns) {n : Fin 4} {i : Nat} {x : Int32} (hd : decode Y.2.1 pc = .ok (.istore_n n, 1)) (hi : (n : Nat) = i) (hn : i < Y.2.2.1) (hl : (i, Value.int x) :: L.filter (fun q => !(q.1 == i) && !(q.1 + 1 == i && q.2.category == 2)) = L') (k : Bld l D Γ A (pc + 1) L' st ws n0 k0) : Bld l D Γ A pc L (.int x :: st) ws n0 k0 :=
  fun H ls locs hL hP hD hS => lv_istore_n hB.1.1 hB.1.2.1 hd hi hL (by rw [hB.1.2.2.1]; exact hn) hl (fun ls1 h1 => k H ls1 locs h1 hP hD hS)
theorem B_astore_n (hB : Bb D ca Γ Y A nc ns) {n : Fin 4} {i : Nat} {x : Nat} (hd : decode Y.2.1 pc = .ok (.astore_n n, 1)) (hi : (n : Nat) = i) (hn : i < Y.2.2.1) (hl : (i, Value.ref x) :: L.filter (fun q => !(q.1 == i) && !(q.1 + 1 == i && q.2.category == 2)) = L') (k : Bld l D Γ A (pc + 1) L' st ws n0 k0) : Bld l D Γ A pc L (.ref x :: st) ws n0 k0 :=
  fun H ls locs hL hP hD hS => lv_astore_n hB.1.1 hB.1.2.1 hd hi hL (by rw [hB.1.2.2.1]; exact hn) hl (fun ls1 h1 => k H ls1 locs h1 hP hD hS)
theorem B_iinc (hB : Bb D ca Γ Y A nc ns) {i j : Nat} {n a b : Int} (hd : decode Y.2.1 pc = .ok (.iinc i n, 3)) (hj : L[j]? = some (i, .int (I a))) (hb : a + n = b) (hn : i < Y.2.2.1) (hl : (i, Value.int (I b)) :: L.filter (fun q => !(q.1 == i) && !(q.1 + 1 == i && q.2.category == 2)) = L') (k : Bld l D Γ A (pc + 3) L' st ws n0 k0) : Bld l D Γ A pc L st ws n0 k0 :=
  fun H ls locs hL hP hD hS => lv_iinc hB.1.1 hB.1.2.1 hd hL hj (by rw [← hb]; exact I_add a n) (by rw [hB.1.2.2.1]; exact hn) hl (fun ls1 h1 => k H ls1 locs h1 hP hD hS)
theorem B_goto (hB : Bb D ca Γ Y A nc ns) {off : Int} (t : Nat) (hd : decode Y.2.1 pc = .ok (.goto off, 3)) (ht : (pc : Int) + off = t) (k : Bld l D Γ A t L st ws n0 k0) : Bld l D Γ A pc L st ws n0 k0 :=
  fun H ls locs hL hP hD hS => lv_goto hB.1.1 hB.1.2.1 hd ht (k H ls locs hL hP hD hS)
theorem B_ge_t (hB : Bb D ca Γ Y A nc ns) {off : Int} {x y : Int32} (t : Nat) (h : y ≤ x) (hd : decode Y.2.1 pc = .ok (.if_icmp .ge off, 3)) (ht : (pc : Int) + off = t) (k : Bld l D Γ A t L st ws n0 k0) : Bld l D Γ A pc L (.int y :: .int x :: st) ws n0 k0 :=
  fun H ls locs hL hP hD hS => lv_icmp_ge hB.1.1 hB.1.2.1 hd ht (fun _ => k H ls locs hL hP hD hS) (fun q => absurd h q)
theorem B_ge_f (hB : Bb D ca Γ Y A nc ns) {off : Int} {x y : Int32} (t : Nat) (h : ¬ y ≤ x) (hd : decode Y.2.1 pc = .ok (.if_icmp .ge off, 3)) (ht : (pc : Int) + off = t) (k : Bld l D Γ A (pc + 3) L st ws n0 k0) : Bld l D Γ A pc L (.int y :: .int x :: st) ws n0 k0 :=
  fun H ls locs hL hP hD hS => lv_icmp_ge hB.1.1 hB.1.2.1 hd ht (fun q => absurd q h) (fun _ => k H ls locs hL hP hD hS)
theorem B_objInit (hB : Bb D ca Γ Y A nc ns) {x a : Nat} (hl : Cond.methodLink Y.1.cls x objectInit ∈ TT) (hi : Cond.instanceMethod objectInit ∈ TT) (hc : Cond.code objectInit ⟨#[0xb1]⟩ 1 none ∈ TT) (hd : decode Y.2.1 pc = .ok (.invokespecial x, 3)) (hf : 1 ≤ Y.2.2.2.2.1) (hlo : (st.map fun v => v.category).sum + 12 ≤ Y.2.2.2.2.2) (k : Bld l D Γ A (pc + 3) L st ws n0 k0) : Bld l D Γ A pc L (.ref a :: st) ws n0 k0 := by
  intro H ls locs hL hP hD hS
  have ht := hB.1.2.2.2.2
  have hfr := hB.2.2.2.1
  have hlc := hB.2.2.2.2.1
  refine W.objInit hB.1.1 hB.1.2.1 hB.1.2.2.2.1 (ht _ hl) (ht _ hi) (ht _ hc) rfl hL.1 rfl hd (by rw [hfr]; exact hf) (by rw [hlc]; show 2 * 0 + _ + 12 ≤ _; omega) ?_
  exact W.eq (g2 := F0 (Gm.m Γ) (pc + 3) ls st) rfl (k H ls locs hL hP hD hS)
theorem B_newi (hB : Bb D ca Γ Y A nc ns) {n : Int32} (N : Nat) (ha : Cond.arrayClass .int ∈ TT) (hn : ¬ n < 0) (hN : n.toNatClampNeg = N) (hb : N * componentBytes .int ≤ 536870912) (hc : n0 + 1 ≤ nc) (hs : k0 + N ≤ ns) (hd : decode Y.2.1 pc = .ok (.newarray .int, 2)) (k : ∀ q : Nat, Bld l D Γ A (pc + 2) L (.ref q :: st) (ws ++ [(q, .inl (ca 0, N, .inl (fun _ => 0)))]) (n0 + 1) (k0 + N)) : Bld l D Γ A pc L (.int n :: st) ws n0 k0 := by
  intro H ls locs hL hP hD hS
  refine va_newa (atype := .int) (ty := .int) (a0 := (N, .inl (fun _ => 0))) hB.1.1 hB.1.2.1 (hB.1.2.2.2.2 _ ha) rfl hB.2.1 hP hD hS hB.2.2.1 (fun _ => rfl) hn hN hb (by rw [hB.2.2.2.2.2.1]; exact hc) (by rw [hB.2.2.2.2.2.2]; exact hs) hd (fun q cA H1 hK1 hP1 hD1 hS1 => ?_)
  have e : cA = ca 0 := Option.some.inj (((hK1.2 6 (cA, .int) rfl).2 : (Gm.s Γ).vm.findClass _ = some cA).symm.trans (hB.2.1.2 0 (ca 0, .int) rfl).2)
  rw [e] at hP1 hD1
  exact k q H1 ls locs hL hP1 hD1 hS1
theorem B_newl (hB : Bb D ca Γ Y A nc ns) {n : Int32} (N : Nat) (ha : Cond.arrayClass .long ∈ TT) (hn : ¬ n < 0) (hN : n.toNatClampNeg = N) (hb : N * componentBytes .long ≤ 536870912) (hc : n0 + 1 ≤ nc) (hs : k0 + N ≤ ns) (hd : decode Y.2.1 pc = .ok (.newarray .long, 2)) (k : ∀ q : Nat, Bld l D Γ A (pc + 2) L (.ref q :: st) (ws ++ [(q, .inl (ca 1, N, .inr (.inl (fun _ => 0))))]) (n0 + 1) (k0 + N)) : Bld l D Γ A pc L (.int n :: st) ws n0 k0 := by
  intro H ls locs hL hP hD hS
  refine va_newa (atype := .long) (ty := .long) (a0 := (N, .inr (.inl (fun _ => 0)))) hB.1.1 hB.1.2.1 (hB.1.2.2.2.2 _ ha) rfl hB.2.1 hP hD hS hB.2.2.1 (fun _ => rfl) hn hN hb (by rw [hB.2.2.2.2.2.1]; exact hc) (by rw [hB.2.2.2.2.2.2]; exact hs) hd (fun q cA H1 hK1 hP1 hD1 hS1 => ?_)
  have e : cA = ca 1 := Option.some.inj (((hK1.2 6 (cA, .long) rfl).2 : (Gm.s Γ).vm.findClass _ = some cA).symm.trans (hB.2.1.2 1 (ca 1, .long) rfl).2)
  rw [e] at hP1 hD1
  exact k q H1 ls locs hL hP1 hD1 hS1
theorem B_newz (hB : Bb D ca Γ Y A nc ns) {n : Int32} (N : Nat) (ha : Cond.arrayClass .boolean ∈ TT) (hn : ¬ n < 0) (hN : n.toNatClampNeg = N) (hb : N * componentBytes .boolean ≤ 536870912) (hc : n0 + 1 ≤ nc) (hs : k0 + N ≤ ns) (hd : decode Y.2.1 pc = .ok (.newarray .boolean, 2)) (k : ∀ q : Nat, Bld l D Γ A (pc + 2) L (.ref q :: st) (ws ++ [(q, .inl (ca 2, N, .inl (fun _ => 0)))]) (n0 + 1) (k0 + N)) : Bld l D Γ A pc L (.int n :: st) ws n0 k0 := by
  intro H ls locs hL hP hD hS
  refine va_newa (atype := .boolean) (ty := .boolean) (a0 := (N, .inl (fun _ => 0))) hB.1.1 hB.1.2.1 (hB.1.2.2.2.2 _ ha) rfl hB.2.1 hP hD hS hB.2.2.1 (fun _ => rfl) hn hN hb (by rw [hB.2.2.2.2.2.1]; exact hc) (by rw [hB.2.2.2.2.2.2]; exact hs) hd (fun q cA H1 hK1 hP1 hD1 hS1 => ?_)
  have e : cA = ca 2 := Option.some.inj (((hK1.2 6 (cA, .boolean) rfl).2 : (Gm.s Γ).vm.findClass _ = some cA).symm.trans (hB.2.1.2 2 (ca 2, .boolean) rfl).2)
  rw [e] at hP1 hD1
  exact k q H1 ls locs hL hP1 hD1 hS1
theorem B_newq (hB : Bb D ca Γ Y A nc ns) {n : Int32} {x : Nat} {C : String} (t N : Nat) (ht : (ctys ca)[t]? = some (ca t, .object C)) (hcl : Cond.classLink Y.1.cls x C ∈ TT) (hov : va_AO C (Gm.s Γ)) (hn : ¬ n < 0) (hN : n.toNatClampNeg = N) (hb : N * 4 ≤ 536870912) (hc : n0 + 1 ≤ nc) (hs : k0 + N ≤ ns) (hd : decode Y.2.1 pc = .ok (.anewarray x, 3)) (k : ∀ q : Nat, Bld l D Γ A (pc + 3) L (.ref q :: st) (ws ++ [(q, .inl (ca t, N, .inr (.inr (.inr (.inr (fun _ => none))))))]) (n0 + 1) (k0 + N)) : Bld l D Γ A pc L (.int n :: st) ws n0 k0 := by
  intro H ls locs hL hP hD hS
  refine va_newq hB.1.1 hB.1.2.1 hB.1.2.2.2.1 (hB.1.2.2.2.2 _ hcl) hov hB.2.1 hP hD hS hB.2.2.1 hn hN hb (by rw [hB.2.2.2.2.2.1]; exact hc) (by rw [hB.2.2.2.2.2.2]; exact hs) hd (fun q cA H1 hK1 hP1 hD1 hS1 => ?_)
  obtain ⟨kA, comp, -, -, -, h1⟩ := (hK1.2 6 (cA, .object C) rfl).2
  obtain ⟨kB, comp2, -, -, -, h2⟩ := (hB.2.1.2 t _ ht).2
  have e : cA = ca t := Option.some.inj (h1.symm.trans h2)
  rw [e] at hP1 hD1
  exact k q H1 ls locs hL hP1 hD1 hS1
theorem B_new (hB : Bb D ca Γ Y A nc ns) {x : Nat} (ci : Nat) {C : String} {T : u_T} {N : Nat} (hcf : CF ci C T N) (ty : Nat → FieldType) (hty : ∀ k, k < N → parseFieldDescriptor (T k).2.2.1 = some (ty k)) (fs : List Value) (hfs : ∀ j, j < N → defaultValue (ty j) = vp_V fs j) (hcl : Cond.classLink Y.1.cls x C ∈ TT) (hinst : Cond.instantiable C N ∈ TT) (hini : Cond.initialized C ∈ TT) (hc : n0 + 1 ≤ nc) (hs : k0 + N ≤ ns) (hd : decode Y.2.1 pc = .ok (.new x, 3)) (k : ∀ q : Nat, Bld l D Γ A (pc + 3) L (.ref q :: st) (ws ++ [(q, .inr (ci, fs))]) (n0 + 1) (k0 + N)) : Bld l D Γ A pc L st ws n0 k0 := by
  intro H ls locs hL hP hD hS
  have ht := hB.1.2.2.2.2
  exact va_new (ci := ci) (fs := fs) (C := C) (T := T) (N := N) hB.1.1 hB.1.2.1 ht hcf.2.2.2.1 ty hty hB.1.2.2.2.1 (ht _ hcl) (ht _ hinst) (ht _ hini) hB.2.1 hP hD hS hB.2.2.1 hcf.1 hfs (by rw [hB.2.2.2.2.2.1]; exact hc) (by rw [hB.2.2.2.2.2.2]; exact hs) hd (fun q H1 hP1 hD1 hS1 => k q H1 ls locs hL hP1 hD1 hS1)
theorem B_putF (hB : Bb D ca Γ Y A nc ns) (hI : (Gm.t Γ).name = "<init>") {x a : Nat} (ci q0 f : Nat) {C : String} {T : u_T} {N : Nat} {fs : List Value} {ty : FieldType} {v : Value} (hcf : CF ci C T N) (hf : f < N) (hlk : Cond.fieldLink Y.1.cls x (T f).1 (T f).2.1 (T f).2.2.1 ∈ TT) (hfin : (T f).2.2.2 = true) (hdc : (T f).1 = Y.1.cls) (hp : parseFieldDescriptor (T f).2.2.1 = some ty) (hn : narrow ty v = v) (hfit : fits ty v = true) (he : ws[q0]? = some (a, .inr (ci, fs))) (hlen : f < fs.length) (hd : decode Y.2.1 pc = .ok (.putfield x, 3)) (k : Bld l D Γ A (pc + 3) L st (ws.set q0 (a, .inr (ci, fs.set f v))) n0 k0) : Bld l D Γ A pc L (v :: .ref a :: st) ws n0 k0 := by
  intro H ls locs hL hP hD hS
  obtain ⟨h1, h2, h3, h4, ⟨ty0, h5⟩, h6⟩ := hcf
  exact va_putF (C := C) (T := T) (N := N) (ci := ci) (ty := ty) hB.1.1 hB.1.2.1 hB.1.2.2.2.2 h4 ty0 h5 h6 hB.1.2.2.2.1 hB.2.1 hP hD hS q0 he h1 f hf (hB.1.2.2.2.2 _ hlk) (fun _ h => h) hfin hI hdc hp hn hfit hlen hd (fun H1 locs1 hP1 hD1 hS1 => k H1 ls locs1 hL hP1 hD1 hS1)
theorem B_put (hB : Bb D ca Γ Y A nc ns) {x a : Nat} (ci q0 f : Nat) {C : String} {T : u_T} {N : Nat} {fs : List Value} {ty : FieldType} {v : Value} (hcf : CF ci C T N) (hf : f < N) (hlk : Cond.fieldLink Y.1.cls x (T f).1 (T f).2.1 (T f).2.2.1 ∈ TT) (hfin : (T f).2.2.2 = false) (hp : parseFieldDescriptor (T f).2.2.1 = some ty) (hn : narrow ty v = v) (hfit : fits ty v = true) (he : ws[q0]? = some (a, .inr (ci, fs))) (hlen : f < fs.length) (hd : decode Y.2.1 pc = .ok (.putfield x, 3)) (k : Bld l D Γ A (pc + 3) L st (ws.set q0 (a, .inr (ci, fs.set f v))) n0 k0) : Bld l D Γ A pc L (v :: .ref a :: st) ws n0 k0 := by
  intro H ls locs hL hP hD hS
  obtain ⟨h1, h2, h3, h4, ⟨ty0, h5⟩, h6⟩ := hcf
  exact va_put (C := C) (T := T) (N := N) (ci := ci) (ty := ty) hB.1.1 hB.1.2.1 hB.1.2.2.2.2 h4 ty0 h5 h6 hB.1.2.2.2.1 hB.2.1 hP hD hS q0 he h1 f hf (hB.1.2.2.2.2 _ hlk) (fun _ h => h) hfin hp hn hfit hlen hd (fun H1 locs1 hP1 hD1 hS1 => k H1 ls locs1 hL hP1 hD1 hS1)
theorem B_get (hB : Bb D ca Γ Y A nc ns) {x a : Nat} (ci q0 f : Nat) {C : String} {T : u_T} {N : Nat} {fs : List Value} {v : Value} (hcf : CF ci C T N) (hf : f < N) (hlk : Cond.fieldLink Y.1.cls x (T f).1 (T f).2.1 (T f).2.2.1 ∈ TT) (he : ws[q0]? = some (a, .inr (ci, fs))) (hv : fs[f]? = some v) (hd : decode Y.2.1 pc = .ok (.getfield x, 3)) (k : Bld l D Γ A (pc + 3) L (v :: st) ws n0 k0) : Bld l D Γ A pc L (.ref a :: st) ws n0 k0 := by
  intro H ls locs hL hP hD hS
  exact va_get (C := C) (T := T) (N := N) (ci := ci) hB.1.1 hB.1.2.1 hB.1.2.2.2.2 hcf.2.2.2.1 hB.1.2.2.2.1 hB.2.1 hP q0 he hcf.1 f hf (hB.1.2.2.2.2 _ hlk) (fun _ h => h) hv hd (k H ls locs hL hP hD hS)
theorem B_iast (hB : Bb D ca Γ Y A nc ns) {a n : Nat} (q0 : Nat) {g : Nat → Int32} {i x : Int32} (he : ws[q0]? = some (a, .inl (ca 0, n, .inl g))) (hin : vp_in i n) (hd : decode Y.2.1 pc = .ok (.iastore, 1)) (k : Bld l D Γ A (pc + 1) L st (ws.set q0 (a, .inl (ca 0, n, .inl (upd g i.toNatClampNeg x)))) n0 k0) : Bld l D Γ A pc L (.int x :: .int i :: .ref a :: st) ws n0 k0 := by
  intro H ls locs hL hP hD hS
  exact va_iast hB.1.1 hB.1.2.1 hB.2.1 hP hD hS q0 0 he rfl hin hd (fun H1 locs1 hP1 hD1 hS1 => k H1 ls locs1 hL hP1 hD1 hS1)
theorem B_astq (hB : Bb D ca Γ Y A nc ns) {a n v : Nat} (t q0 qk ci : Nat) {r : vw_C} {vs : List Value} {g : Nat → Option Nat} {i : Int32} (he : ws[q0]? = some (a, .inl (ca t, n, .inr (.inr (.inr (.inr g)))))) (ht : (ctys ca)[t]? = some (ca t, .object r.1)) (hv : ws[qk]? = some (v, .inr (ci, vs))) (hc : classes[ci]? = some r) (hin : vp_in i n) (hd : decode Y.2.1 pc = .ok (.aastore, 1)) (k : Bld l D Γ A (pc + 1) L st (ws.set q0 (a, .inl (ca t, n, .inr (.inr (.inr (.inr (va_up g i.toNatClampNeg (some v)))))))) n0 k0) : Bld l D Γ A pc L (.ref v :: .int i :: .ref a :: st) ws n0 k0 := by
  intro H ls locs hL hP hD hS
  exact va_astq hB.1.1 hB.1.2.1 hB.2.1 hP hD hS q0 t qk ci he ht hv hc hin hd (fun H1 locs1 hP1 hD1 hS1 => k H1 ls locs1 hL hP1 hD1 hS1)
theorem B_ldcS (hB : Bb D ca Γ Y A nc ns) {x q : Nat} {tx : String} (hz : vk_R Y.1.cls x tx q (Gm.s Γ)) (hd : decode Y.2.1 pc = .ok (.ldc x, 2)) (k : Bld l D Γ A (pc + 2) L (.ref q :: st) ws n0 k0) : Bld l D Γ A pc L st ws n0 k0 :=
  fun H ls locs hL hP hD hS => va_ldcS hB.1.1 hB.1.2.1 hB.1.2.2.2.1 hz hd (k H ls locs hL hP hD hS)
end BUILD
/-- a constructor's contract: the cell h0 comes with e0; the world post u is there behind it -/
def CPc (D : va_G) (ca : Nat → ClassId) (h0 : Nat) (e0 : va_E) (av : List Value) (sz : Nat) (Z : State → Prop) : Array Value → State → Prop := va_Pc (.ref h0 :: av) (fun U => U.heap.size = sz ∧ va_K D classes (ctys ca) U ∧ va_P D classes [(h0, e0)] U.heap ∧ Z U)
def CQc (D : va_G) (h0 : Nat) (e0 : va_E) (sz : Nat) (post : (Nat → Nat) → va_W) : Array Value → State → Outcome → State → Prop := va_Qv (fun _ : Nat → Nat => True) (fun u t => va_P D classes (post u) t.heap ∧ va_D (va_A [(h0, e0)] sz) (post u)) (va_A [(h0, e0)] sz)
def CSpc (l : Launch) (D : va_G) (ca : Nat → ClassId) (Y : Mt) (mc ms h0 : Nat) (e0 : va_E) (av : List Value) (Z : State → Prop) (post : (Nat → Nat) → va_W) : Prop := ∀ sz : Nat, Met l Y.1 (codeW Y :: TT) { frames := Y.2.2.2.2.1, cells := mc, slots := ms, locals := Y.2.2.2.2.2 } (CPc D ca h0 e0 av sz Z) (CQc D h0 e0 sz post) mc ms (va_A [(h0, e0)] sz)
def CEnd (D : va_G) (Γ : Gm) (h0 : Nat) (e0 : va_E) (sz mc ms : Nat) (post : (Nat → Nat) → va_W) : Prop := Gm.Q Γ = MQ (Gm.b Γ) (CQc D h0 e0 sz post) (Gm.a Γ) (Gm.s Γ) mc ms (va_A [(h0, e0)] sz) ∧ (Gm.t Γ).sig.returnType = none ∧ (Gm.t Γ).locks = false
theorem CSpc_of {l : Launch} {D : va_G} {ca : Nat → ClassId} {Y : Mt} {mc ms h0 : Nat} {e0 : va_E} {av : List Value} {Z : State → Prop} {post : (Nat → Nat) → va_W} (hy : plainName Y.1.cls = true) (hr : Y.2.2.2.1 = none) (hnm : Y.1.name = "<init>") (hn : (lg_sl (.ref h0 :: av)).length ≤ Y.2.2.1)
    (h : ∀ (Γ : Gm) (sz : Nat), Bb D ca Γ Y (va_A [(h0, e0)] sz) mc ms → CEnd D Γ h0 e0 sz mc ms post → (Gm.t Γ).name = "<init>" → Z (Gm.s Γ) → Bld l D Γ (va_A [(h0, e0)] sz) 0 (lv_args 0 (.ref h0 :: av)) [] [(h0, e0)] 0 0) : CSpc l D ca Y mc ms h0 e0 av Z post := by
  intro sz
  refine Met.ofW (cc := Y.2.1) (maxL := Y.2.2.1) (ret := Y.2.2.2.1) hy rfl ?_
  intro p e s m args below meth c s₁ B hml hv
  obtain ⟨rfl, hsz, hK, hP, hZ⟩ := hv
  subst hsz
  have hts := atoms_spec (ws := codeW Y :: TT) B.pre
  have hin : meth.name = "<init>" := by rw [(name_of_methodNamed B.named B.method).1]; exact hnm
  have hb : Bb D ca (p, e, { frames := Y.2.2.2.2.1, cells := mc, slots := ms, locals := Y.2.2.2.2.2 }, s, m, (Value.ref h0 :: av).toArray, below, meth, c, 0, 0, MQ below (CQc D h0 e0 s.heap.size post) (Value.ref h0 :: av).toArray s mc ms (va_A [(h0, e0)] s.heap.size)) Y (va_A [(h0, e0)] s.heap.size) mc ms :=
    ⟨⟨B.exec, B.bytes, hml, findClass_of_methodNamed B.named, fun w hw => hts w (List.mem_cons_of_mem _ hw)⟩, hK, fun q hq => Or.inr hq, rfl, rfl, rfl, rfl⟩
  have hr1 := h _ s.heap.size hb ⟨rfl, by show meth.sig.returnType = none; rw [B.returns]; exact hr, B.notSynchronized⟩ hin hZ s.heap _ [] (by rw [show (Gm.c (p, e, ({ frames := Y.2.2.2.2.1, cells := mc, slots := ms, locals := Y.2.2.2.2.2 } : Room), s, m, (Value.ref h0 :: av).toArray, below, meth, c, 0, 0, MQ below (CQc D h0 e0 s.heap.size post) (Value.ref h0 :: av).toArray s mc ms (va_A [(h0, e0)] s.heap.size))).maxLocals = Y.2.2.1 from hml]; exact lv_entry (.ref h0 :: av) (n := Y.2.2.1) hn) hP ⟨fun i j p q hi hj _ => by
      have hi2 : i < 1 := (List.getElem?_eq_some_iff.mp hi).1
      have hj2 : j < 1 := (List.getElem?_eq_some_iff.mp hj).1
      omega, fun k q hk => va_A.in hk⟩ va_S.rf
  rw [lg_entry_eq]
  exact hr1
section BUILD2
variable {l : Launch} {D : va_G} {ca : Nat → ClassId} {Γ : Gm} {Y : Mt} {A : Nat → Prop} {nc ns pc n0 k0 : Nat} {L L' : List (Nat × Value)} {st rest : List Value} {ws : va_W}
theorem B_vret (hB : Bb D ca Γ Y A nc ns) {h0 sz mc ms : Nat} {e0 : va_E} {post : (Nat → Nat) → va_W} (hA : A = va_A [(h0, e0)] sz) (hE : CEnd D Γ h0 e0 sz mc ms post) (u : Nat → Nat) (hw : ws = post u) (hd : decode Y.2.1 pc = .ok (.return_, 1)) : Bld l D Γ A pc L [] ws mc ms := by
  intro H ls locs hL hP hD hS
  subst hA hw
  rw [hE.1]
  exact W.vret hB.1.1 hB.1.2.1 hE.2.1 (fun t ht hW => ⟨⟨u, rfl, trivial, by rw [ht]; exact hP, hD⟩, hS.F ht⟩) hS.2.2 hd hE.2.2
theorem B_init (hB : Bb D ca Γ Y A nc ns) {y : MethodName} {b : ByteArray} {mL fr lo mc ms x n h0 : Nat} (ix : Nat) {e0 : va_E} {av : List Value} {Z : State → Prop} {post : (Nat → Nat) → va_W} (hS : CSpc l D ca (y, b, mL, none, fr, lo) mc ms h0 e0 av Z post) (hbl : ∀ (U : State) (g : JFrame) (mk : MethodId) (a : Array Value), Z U → Z (U.calling g mk a)) (hz : ∀ U : State, (Gm.s Γ).WarmedH U.vm → Z U) (hini : Cond.initialized y.cls ∈ TT) (hlk : Cond.methodLink Y.1.cls x y ∈ TT) (him : Cond.instanceMethod y ∈ TT) (hco : Cond.code y b mL none ∈ TT) (hnm : y.name = "<init>") (hd3 : y.cls ≠ "java/lang/invoke/MethodHandle" ∧ y.cls ≠ "java/lang/invoke/VarHandle" ∧ (parseMethodDescriptor y.desc).map (fun d => d.parameters.length) = some n)
    (hR : fr + 1 ≤ Y.2.2.2.2.1 ∧ 8 + (mL + 11) + lo ≤ Y.2.2.2.2.2) (hd : decode Y.2.1 pc = .ok (.invokespecial x, 3)) (hn : av.length = n) (hst : st = av.reverse ++ .ref h0 :: rest) (hw : (rest.map fun v => v.category).sum ≤ 8) (hrm : n0 + mc ≤ nc ∧ k0 + ms ≤ ns) (hC : ws[ix]? = some (h0, e0)) (isR : List Nat) (wr : va_W) (hRs : isR.map (fun i => ws[i]?) = wr.map some) (hnd : va_nd isR = true) (hdis : ∀ i ∈ isR, i ∉ [ix]) (kk : ∀ u : Nat → Nat, Bld l D Γ A (pc + 3) L rest (wr ++ post u) (n0 + mc) (k0 + ms)) : Bld l D Γ A pc L st ws n0 k0 := by
  intro H ls locs hL hP hD hSS
  have hC1 : [ix].map (fun i => ws[i]?) = [(h0, e0)].map some := by simp [hC]
  have hPc := hP.sub (ws' := [(h0, e0)]) [ix] (by simp [hC])
  have hFc := va_free (wc := [(h0, e0)]) hD hSS hB.2.2.1 [ix] hC1
  have ht := hB.1.2.2.2.2
  have hg : GoodIn TT (codeW (y, b, mL, none, fr, lo) :: TT) := fun w h => by
    rcases List.mem_cons.mp h with rfl | h
    · exact TT_in _ hco
    · exact TT_in w h
  refine va_callv (va_runI (Ts := TT) (As := av) (rest := rest) hB.1 (hS H.size) ⟨callB_of n ht hg rfl rfl rfl (ht _ hini) (ht _ hlk) hd3 ⟨by rw [hB.2.2.2.1]; exact hR.1, by rw [hB.2.2.2.2.1]; exact hR.2⟩, hnm, ht _ him⟩ ⟨fun a U g mk q => ⟨q.1, q.2.1, va_K.moved (u := U) (U := U.calling g mk a) (Vm.Alike.refl U.vm) q.2.2.1, q.2.2.2.1, hbl U g mk a q.2.2.2.2⟩, fun U hU hW => ⟨rfl, by rw [hU], va_K.moved hW.alike hB.2.1, by rw [hU]; exact hPc, hz U hW⟩⟩ rfl hn (hL.1.trans hB.1.2.2.1) hst (lv_room hw) hd ⟨by rw [hB.2.2.2.2.2.1]; exact hrm.1, by rw [hB.2.2.2.2.2.2]; exact hrm.2⟩) hSS (fun q _ h => hFc q h) hFc (fun u t H1 locs1 ht1 hvm hq hb1 hz1 hk1 hS1 => ?_)
  obtain ⟨hP1, hD1⟩ := hb1
  rw [ht1] at hP1
  obtain ⟨hP2, hD2⟩ := va_join (wr := wr) (w1 := post u) hP hD [ix] isR hC1 hRs hnd hdis hk1 hFc hP1 hD1
  exact kk u H1 ls locs1 hL hP2 hD2 hS1
theorem B_initN (hB : Bb D ca Γ Y A nc ns) {y : MethodName} {b : ByteArray} {mL fr lo mc ms x n h0 : Nat} (ix : Nat) {e0 : va_E} {av : List Value} {host : String} {post : (Nat → Nat) → va_W} (hS : CSpc l D ca (y, b, mL, none, fr, lo) mc ms h0 e0 av (fun _ => True) post) (hini : Cond.initialized y.cls ∈ TT) (hlk : va_Nw (.methodLinkNest Y.1.cls x y host) (Gm.s Γ)) (him : Cond.instanceMethod y ∈ TT) (hco : Cond.code y b mL none ∈ TT) (hnm : y.name = "<init>") (hd3 : y.cls ≠ "java/lang/invoke/MethodHandle" ∧ y.cls ≠ "java/lang/invoke/VarHandle" ∧ (parseMethodDescriptor y.desc).map (fun d => d.parameters.length) = some n)
    (hR : fr + 1 ≤ Y.2.2.2.2.1 ∧ 8 + (mL + 11) + lo ≤ Y.2.2.2.2.2) (hd : decode Y.2.1 pc = .ok (.invokespecial x, 3)) (hn : av.length = n) (hst : st = av.reverse ++ .ref h0 :: rest) (hw : (rest.map fun v => v.category).sum ≤ 8) (hrm : n0 + mc ≤ nc ∧ k0 + ms ≤ ns) (hC : ws[ix]? = some (h0, e0)) (isR : List Nat) (wr : va_W) (hRs : isR.map (fun i => ws[i]?) = wr.map some) (hnd : va_nd isR = true) (hdis : ∀ i ∈ isR, i ∉ [ix]) (kk : ∀ u : Nat → Nat, Bld l D Γ A (pc + 3) L rest (wr ++ post u) (n0 + mc) (k0 + ms)) : Bld l D Γ A pc L st ws n0 k0 := by
  intro H ls locs hL hP hD hSS
  have hC1 : [ix].map (fun i => ws[i]?) = [(h0, e0)].map some := by simp [hC]
  have hPc := hP.sub (ws' := [(h0, e0)]) [ix] (by simp [hC])
  have hFc := va_free (wc := [(h0, e0)]) hD hSS hB.2.2.1 [ix] hC1
  have ht := hB.1.2.2.2.2
  have hg : GoodIn TT (codeW (y, b, mL, none, fr, lo) :: TT) := fun w h => by
    rcases List.mem_cons.mp h with rfl | h
    · exact TT_in _ hco
    · exact TT_in w h
  refine va_callv (va_runIN (Ts := TT) (As := av) (rest := rest) hB.1 (hS H.size) ⟨va_cnB n ht hg rfl rfl rfl hlk (ht _ hini) hd3 ⟨by rw [hB.2.2.2.1]; exact hR.1, by rw [hB.2.2.2.2.1]; exact hR.2⟩, hnm, ht _ him⟩ ⟨fun a U g mk q => ⟨q.1, q.2.1, va_K.moved (u := U) (U := U.calling g mk a) (Vm.Alike.refl U.vm) q.2.2.1, q.2.2.2.1, trivial⟩, fun U hU hW => ⟨rfl, by rw [hU], va_K.moved hW.alike hB.2.1, by rw [hU]; exact hPc, trivial⟩⟩ rfl hn (hL.1.trans hB.1.2.2.1) hst (lv_room hw) hd ⟨by rw [hB.2.2.2.2.2.1]; exact hrm.1, by rw [hB.2.2.2.2.2.2]; exact hrm.2⟩) hSS (fun q _ h => hFc q h) hFc (fun u t H1 locs1 ht1 hvm hq hb1 hz1 hk1 hS1 => ?_)
  obtain ⟨hP1, hD1⟩ := hb1
  rw [ht1] at hP1
  obtain ⟨hP2, hD2⟩ := va_join (wr := wr) (w1 := post u) hP hD [ix] isR hC1 hRs hnd hdis hk1 hFc hP1 hD1
  exact kk u H1 ls locs1 hL hP2 hD2 hS1
end BUILD2
