/-! what the Statement says of the start -/
theorem ar_p {args : Array Value} {s : State} {ty : FieldType} (hty : ty = .int ∨ ty = .long ∨ ty = .boolean) (h : (Cond.arrayClass ty).before args s = true) : ∃ cA : ClassId, ArrOfT s cA ty ∧ va_RA s cA ty := by
  obtain ⟨c, k, comp, h1, h2, h3⟩ := Cond.arrayClass_spec h
  refine ⟨c, fun n z => ⟨fun k h => (by cases h), k, h2, comp, h3⟩, ?_⟩
  rcases hty with rfl | rfl | rfl <;> exact h1
theorem ar_o {s : State} {C : String} (h : va_AO C s) : ∃ cA : ClassId, ArrOfT s cA (.object C) ∧ va_RA s cA (.object C) := by
  obtain ⟨comp, c, k, h1, h2, h3, h4, h5⟩ := Cond.arrayOver_spec h
  exact ⟨c, fun n z => ⟨fun k h => (by cases h), k, h3, comp, h4⟩, k, comp, h3, h4, h1, h5⟩
abbrev A0 (s : State) : Nat → Prop := fun q => s.heap.size ≤ q
theorem A0_no {s : State} : ∀ a : Nat, a < s.heap.size → ¬ A0 s a := fun a h q => by
  have : s.heap.size ≤ a := q
  omega
theorem tb_0 {s : State} {b : Nat} (hts : ∀ w ∈ lw_tbl, w.before #[Value.ref b] s = true) (hgv : (Jvm.Cond.and given_1 narrow_1).before #[Value.ref b] s = true) : ∃ a : Nat, va_Z RX7 (sname 0) "[I" (.ref a) (A0 s) s s.heap ∧ va_T .int a (slen 0) (fun j => .int (I (sval 0 j))) (A0 s) s s.heap := by
  have hs := flat_of_before _ hgv
  obtain ⟨a, h1, h2⟩ := va_Tof (args := #[Value.ref b]) (s := s) (tm := (.static "SleptWitness" "CYCLE" "[I")) (ty := .int) (N := 6) (f := fun j => .int (I (sval 0 j))) (A := A0 s) (by decide) (hs (.arrayOf (.static "SleptWitness" "CYCLE" "[I") .int) (by decide +kernel)) (va_eqt (hs (.eq (.length (.static "SleptWitness" "CYCLE" "[I")) (.int 6)) (by decide +kernel))) (fun j hj => by
    rcases (show j = 0 ∨ j = 1 ∨ j = 2 ∨ j = 3 ∨ j = 4 ∨ j = 5 by omega) with rfl | rfl | rfl | rfl | rfl | rfl
    · exact va_eqt (hs (.eq (.elem (.static "SleptWitness" "CYCLE" "[I") (.int 0)) (.int 1)) (by decide +kernel))
    · exact va_eqt (hs (.eq (.elem (.static "SleptWitness" "CYCLE" "[I") (.int 1)) (.int 3)) (by decide +kernel))
    · exact va_eqt (hs (.eq (.elem (.static "SleptWitness" "CYCLE" "[I") (.int 2)) (.int 5)) (by decide +kernel))
    · exact va_eqt (hs (.eq (.elem (.static "SleptWitness" "CYCLE" "[I") (.int 3)) (.int 6)) (by decide +kernel))
    · exact va_eqt (hs (.eq (.elem (.static "SleptWitness" "CYCLE" "[I") (.int 4)) (.int 4)) (by decide +kernel))
    · exact va_eqt (hs (.eq (.elem (.static "SleptWitness" "CYCLE" "[I") (.int 5)) (.int 2)) (by decide +kernel))
    ) A0_no
  exact ⟨a, va_Zref (hts (.laysStatic "SleptWitness" "CYCLE" "[I") (by decide +kernel)) (hts (.initialized "SleptWitness") (by decide +kernel)) h1 A0_no, h2⟩
theorem tb_1 {s : State} {b : Nat} (hts : ∀ w ∈ lw_tbl, w.before #[Value.ref b] s = true) (hgv : (Jvm.Cond.and given_1 narrow_1).before #[Value.ref b] s = true) : ∃ a : Nat, va_Z RX7 (sname 1) "[I" (.ref a) (A0 s) s s.heap ∧ va_T .int a (slen 1) (fun j => .int (I (sval 1 j))) (A0 s) s s.heap := by
  have hs := flat_of_before _ hgv
  obtain ⟨a, h1, h2⟩ := va_Tof (args := #[Value.ref b]) (s := s) (tm := (.static "SleptWitness" "LOUD" "[I")) (ty := .int) (N := 4) (f := fun j => .int (I (sval 1 j))) (A := A0 s) (by decide) (hs (.arrayOf (.static "SleptWitness" "LOUD" "[I") .int) (by decide +kernel)) (va_eqt (hs (.eq (.length (.static "SleptWitness" "LOUD" "[I")) (.int 4)) (by decide +kernel))) (fun j hj => by
    rcases (show j = 0 ∨ j = 1 ∨ j = 2 ∨ j = 3 by omega) with rfl | rfl | rfl | rfl
    · exact va_eqt (hs (.eq (.elem (.static "SleptWitness" "LOUD" "[I") (.int 0)) (.int 6)) (by decide +kernel))
    · exact va_eqt (hs (.eq (.elem (.static "SleptWitness" "LOUD" "[I") (.int 1)) (.int 4)) (by decide +kernel))
    · exact va_eqt (hs (.eq (.elem (.static "SleptWitness" "LOUD" "[I") (.int 2)) (.int 9)) (by decide +kernel))
    · exact va_eqt (hs (.eq (.elem (.static "SleptWitness" "LOUD" "[I") (.int 3)) (.int 3)) (by decide +kernel))
    ) A0_no
  exact ⟨a, va_Zref (hts (.laysStatic "SleptWitness" "LOUD" "[I") (by decide +kernel)) (hts (.initialized "SleptWitness") (by decide +kernel)) h1 A0_no, h2⟩
theorem tb_2 {s : State} {b : Nat} (hts : ∀ w ∈ lw_tbl, w.before #[Value.ref b] s = true) (hgv : (Jvm.Cond.and given_1 narrow_1).before #[Value.ref b] s = true) : ∃ a : Nat, va_Z RX7 (sname 2) "[I" (.ref a) (A0 s) s s.heap ∧ va_T .int a (slen 2) (fun j => .int (I (sval 2 j))) (A0 s) s s.heap := by
  have hs := flat_of_before _ hgv
  obtain ⟨a, h1, h2⟩ := va_Tof (args := #[Value.ref b]) (s := s) (tm := (.static "SleptWitness" "LAW_LOW" "[I")) (ty := .int) (N := 3) (f := fun j => .int (I (sval 2 j))) (A := A0 s) (by decide) (hs (.arrayOf (.static "SleptWitness" "LAW_LOW" "[I") .int) (by decide +kernel)) (va_eqt (hs (.eq (.length (.static "SleptWitness" "LAW_LOW" "[I")) (.int 3)) (by decide +kernel))) (fun j hj => by
    rcases (show j = 0 ∨ j = 1 ∨ j = 2 by omega) with rfl | rfl | rfl
    · exact va_eqt (hs (.eq (.elem (.static "SleptWitness" "LAW_LOW" "[I") (.int 0)) (.int 0)) (by decide +kernel))
    · exact va_eqt (hs (.eq (.elem (.static "SleptWitness" "LAW_LOW" "[I") (.int 1)) (.int 0)) (by decide +kernel))
    · exact va_eqt (hs (.eq (.elem (.static "SleptWitness" "LAW_LOW" "[I") (.int 2)) (.int 1)) (by decide +kernel))
    ) A0_no
  exact ⟨a, va_Zref (hts (.laysStatic "SleptWitness" "LAW_LOW" "[I") (by decide +kernel)) (hts (.initialized "SleptWitness") (by decide +kernel)) h1 A0_no, h2⟩
theorem tb_3 {s : State} {b : Nat} (hts : ∀ w ∈ lw_tbl, w.before #[Value.ref b] s = true) (hgv : (Jvm.Cond.and given_1 narrow_1).before #[Value.ref b] s = true) : ∃ a : Nat, va_Z RX7 (sname 3) "[I" (.ref a) (A0 s) s s.heap ∧ va_T .int a (slen 3) (fun j => .int (I (sval 3 j))) (A0 s) s s.heap := by
  have hs := flat_of_before _ hgv
  obtain ⟨a, h1, h2⟩ := va_Tof (args := #[Value.ref b]) (s := s) (tm := (.static "SleptWitness" "LAW_HIGH" "[I")) (ty := .int) (N := 3) (f := fun j => .int (I (sval 3 j))) (A := A0 s) (by decide) (hs (.arrayOf (.static "SleptWitness" "LAW_HIGH" "[I") .int) (by decide +kernel)) (va_eqt (hs (.eq (.length (.static "SleptWitness" "LAW_HIGH" "[I")) (.int 3)) (by decide +kernel))) (fun j hj => by
    rcases (show j = 0 ∨ j = 1 ∨ j = 2 by omega) with rfl | rfl | rfl
    · exact va_eqt (hs (.eq (.elem (.static "SleptWitness" "LAW_HIGH" "[I") (.int 0)) (.int 9)) (by decide +kernel))
    · exact va_eqt (hs (.eq (.elem (.static "SleptWitness" "LAW_HIGH" "[I") (.int 1)) (.int 9)) (by decide +kernel))
    · exact va_eqt (hs (.eq (.elem (.static "SleptWitness" "LAW_HIGH" "[I") (.int 2)) (.int 8)) (by decide +kernel))
    ) A0_no
  exact ⟨a, va_Zref (hts (.laysStatic "SleptWitness" "LAW_HIGH" "[I") (by decide +kernel)) (hts (.initialized "SleptWitness") (by decide +kernel)) h1 A0_no, h2⟩
theorem tb_c {s : State} {b : Nat} (hts : ∀ w ∈ lw_tbl, w.before #[Value.ref b] s = true) (hgv : (Jvm.Cond.and given_1 narrow_1).before #[Value.ref b] s = true) : va_Z RJ0 "COMPACT_STRINGS" "Z" (.int 1) (A0 s) s s.heap := by
  have hs := flat_of_before _ hgv
  exact va_Zof (hts (.laysStatic "java/lang/String" "COMPACT_STRINGS" "Z") (by decide +kernel)) (hts (.initialized "java/lang/String") (by decide +kernel)) (va_eqi (hs (.eq (.static "java/lang/String" "COMPACT_STRINGS" "Z") (.int 1)) (by decide +kernel))) A0_no
def tmN (i : Nat) : Term := if i = 0 then .string "SleptWitness" 77 else .string "SleptWitness" 82
theorem tb_s {s : State} {b : Nat} (hts : ∀ w ∈ lw_tbl, w.before #[Value.ref b] s = true) (hgv : (Jvm.Cond.and given_1 narrow_1).before #[Value.ref b] s = true) : ∃ tx bt : Nat → Nat, vk_S 2 [4, 4] [[121, 111, 119, 105], [107, 118, 102, 100]] tx bt (A0 s) s s.heap ∧ ∀ i : Nat, i < 2 → (tmN i).eval #[Value.ref b] s none [] s = some (.ref (tx i)) := by
  have hs := flat_of_before _ hgv
  refine vk_Sof (tm := tmN) (fun i hi => ?_) (fun i hi => ?_) (fun i hi => ?_) (fun i hi => ?_) (fun i hi => ?_) (fun i hi j hj => ?_) (fun i j hi hj hij => ?_) A0_no
  · rcases (show i = 0 ∨ i = 1 by omega) with rfl | rfl
    · decide
    · decide
  · rcases (show i = 0 ∨ i = 1 by omega) with rfl | rfl
    · exact hs (.exactly (.string "SleptWitness" 77) "java/lang/String") (by decide +kernel)
    · exact hs (.exactly (.string "SleptWitness" 82) "java/lang/String") (by decide +kernel)
  · rcases (show i = 0 ∨ i = 1 by omega) with rfl | rfl
    · exact hs (.eq (.field (.string "SleptWitness" 77) "java/lang/String" "coder" "B") (.int 0)) (by decide +kernel)
    · exact hs (.eq (.field (.string "SleptWitness" 82) "java/lang/String" "coder" "B") (.int 0)) (by decide +kernel)
  · rcases (show i = 0 ∨ i = 1 by omega) with rfl | rfl
    · exact hs (.arrayOf (.field (.string "SleptWitness" 77) "java/lang/String" "value" "[B") .byte) (by decide +kernel)
    · exact hs (.arrayOf (.field (.string "SleptWitness" 82) "java/lang/String" "value" "[B") .byte) (by decide +kernel)
  · rcases (show i = 0 ∨ i = 1 by omega) with rfl | rfl
    · exact hs (.eq (.length (.field (.string "SleptWitness" 77) "java/lang/String" "value" "[B")) (.int 4)) (by decide +kernel)
    · exact hs (.eq (.length (.field (.string "SleptWitness" 82) "java/lang/String" "value" "[B")) (.int 4)) (by decide +kernel)
  · rcases (show i = 0 ∨ i = 1 by omega) with rfl | rfl
    · have hj : j < 4 := hj
      rcases (show j = 0 ∨ j = 1 ∨ j = 2 ∨ j = 3 by omega) with rfl | rfl | rfl | rfl
      · exact hs (.eq (.elem (.field (.string "SleptWitness" 77) "java/lang/String" "value" "[B") (.int 0)) (.int 121)) (by decide +kernel)
      · exact hs (.eq (.elem (.field (.string "SleptWitness" 77) "java/lang/String" "value" "[B") (.int 1)) (.int 111)) (by decide +kernel)
      · exact hs (.eq (.elem (.field (.string "SleptWitness" 77) "java/lang/String" "value" "[B") (.int 2)) (.int 119)) (by decide +kernel)
      · exact hs (.eq (.elem (.field (.string "SleptWitness" 77) "java/lang/String" "value" "[B") (.int 3)) (.int 105)) (by decide +kernel)
    · have hj : j < 4 := hj
      rcases (show j = 0 ∨ j = 1 ∨ j = 2 ∨ j = 3 by omega) with rfl | rfl | rfl | rfl
      · exact hs (.eq (.elem (.field (.string "SleptWitness" 82) "java/lang/String" "value" "[B") (.int 0)) (.int 107)) (by decide +kernel)
      · exact hs (.eq (.elem (.field (.string "SleptWitness" 82) "java/lang/String" "value" "[B") (.int 1)) (.int 118)) (by decide +kernel)
      · exact hs (.eq (.elem (.field (.string "SleptWitness" 82) "java/lang/String" "value" "[B") (.int 2)) (.int 102)) (by decide +kernel)
      · exact hs (.eq (.elem (.field (.string "SleptWitness" 82) "java/lang/String" "value" "[B") (.int 3)) (.int 100)) (by decide +kernel)
  · have h := hs (.not (.eq (.string "SleptWitness" 77) (.string "SleptWitness" 82))) (by decide +kernel)
    rcases (show (i = 0 ∧ j = 1) ∨ (i = 1 ∧ j = 0) by omega) with ⟨rfl, rfl⟩ | ⟨rfl, rfl⟩
    · exact Or.inl h
    · exact Or.inr h
theorem xw_of {s : State} {b : Nat} {tx : Nat → Nat} (hts : ∀ w ∈ lw_tbl, w.before #[Value.ref b] s = true) (h0 : (Term.string "SleptWitness" 77).eval #[Value.ref b] s none [] s = some (.ref (tx 0))) (h1 : (Term.string "SleptWitness" 82).eval #[Value.ref b] s none [] s = some (.ref (tx 1))) : XW tx s :=
  ⟨⟨va_Nw.of rfl (hts (.methodLinkNest RX7 23 yX0_init RX7) (by decide +kernel)), va_Nw.of rfl (hts (.methodLinkNest RX7 34 yX5_init RX7) (by decide +kernel)), va_Nw.of rfl (hts (.methodLinkNest RX7 45 yX4_init RX7) (by decide +kernel)), va_Nw.of rfl (hts (.methodLinkNest RX7 55 yX2_init RX7) (by decide +kernel)), va_Nw.of rfl (hts (.methodLinkNest RX7 62 yX1_init RX7) (by decide +kernel)), va_Nw.of rfl (hts (.methodLinkNest RX7 84 yX3_init RX7) (by decide +kernel))⟩, ⟨va_AO.of (hts (.arrayOver (.object RX6)) (by decide +kernel)), va_AO.of (hts (.arrayOver (.object RX4)) (by decide +kernel)), va_AO.of (hts (.arrayOver (.object RX3)) (by decide +kernel))⟩, vk_R.of (hts (.stringRef "SleptWitness" 77 "yowi") (by decide +kernel)) h0, vk_R.of (hts (.stringRef "SleptWitness" 82 "kvfd") (by decide +kernel)) h1⟩
theorem nw_of {s : State} {b : Nat} (hts : ∀ w ∈ lw_tbl, w.before #[Value.ref b] s = true) : NW s :=
  ⟨va_Nw.of rfl (hts (.fieldLinkNest RX2 95 RX7 "LOUD" "[I" RX7) (by decide +kernel)), va_Nw.of rfl (hts (.fieldLinkNest RX4 24 RX7 "CYCLE" "[I" RX7) (by decide +kernel)), va_Nw.of rfl (hts (.methodLinkNest RX5 21 yX7_within RX7) (by decide +kernel))⟩
theorem XW.same {tx : Nat → Nat} {u U : State} (hv : U.vm = u.vm) (h : XW tx u) : XW tx U := by
  obtain ⟨⟨a1, a2, a3, a4, a5, a6⟩, ⟨b1, b2, b3⟩, c1, c2⟩ := h
  have ha : u.vm.Alike U.vm := by rw [hv]; exact Vm.Alike.refl u.vm
  exact ⟨⟨va_Nw.same rfl hv.symm a1, va_Nw.same rfl hv.symm a2, va_Nw.same rfl hv.symm a3, va_Nw.same rfl hv.symm a4, va_Nw.same rfl hv.symm a5, va_Nw.same rfl hv.symm a6⟩, ⟨b1.moved ha, b2.moved ha, b3.moved ha⟩, c1.same hv, c2.same hv⟩
theorem XW.warm {tx : Nat → Nat} {s U : State} (hW : s.WarmedH U.vm) (h : XW tx s) : XW tx U := by
  obtain ⟨⟨a1, a2, a3, a4, a5, a6⟩, ⟨b1, b2, b3⟩, c1, c2⟩ := h
  exact ⟨⟨a1.warmM hW, a2.warmM hW, a3.warmM hW, a4.warmM hW, a5.warmM hW, a6.warmM hW⟩, ⟨b1.moved hW.alike, b2.moved hW.alike, b3.moved hW.alike⟩, c1.warm hW, c2.warm hW⟩
theorem kk_of {s : State} {b : Nat} (hts : ∀ w ∈ lw_tbl, w.before #[Value.ref b] s = true) : ∃ (D : va_G) (ca : Nat → ClassId), va_K D classes (ctys ca) s := by
  have htt : ∀ w ∈ TT, w.before #[Value.ref b] s = true := fun w h => hts w (List.mem_filter.mp h).1
  obtain ⟨c0, i0, h0⟩ := u_known htt cf_0.2.2.2.1 (htt _ bw_32)
  obtain ⟨c1, i1, h1⟩ := u_known htt cf_1.2.2.2.1 (htt _ bw_156)
  obtain ⟨c2, i2, h2⟩ := u_known htt cf_2.2.2.2.1 (htt _ bw_113)
  obtain ⟨c3, i3, h3⟩ := u_known htt cf_3.2.2.2.1 (htt _ bw_201)
  obtain ⟨c4, i4, h4⟩ := u_known htt cf_4.2.2.2.1 (htt _ bw_88)
  obtain ⟨c5, i5, h5⟩ := u_known htt cf_5.2.2.2.1 (htt _ bw_64)
  obtain ⟨c6, i6, h6⟩ := u_known htt cf_6.2.2.2.1 (htt _ bw_177)
  obtain ⟨c7, i7, h7⟩ := u_known htt cf_7.2.2.2.1 (htt _ bw_20)
  obtain ⟨c8, i8, h8⟩ := u_known htt cf_8.2.2.2.1 (htt _ bw_726)
  obtain ⟨a0, g0⟩ := ar_p (Or.inl rfl) (htt _ bw_62)
  obtain ⟨a1, g1⟩ := ar_p (Or.inr (Or.inl rfl)) (htt _ bw_198)
  obtain ⟨a2, g2⟩ := ar_p (Or.inr (Or.inr rfl)) (htt _ bw_834)
  obtain ⟨a3, g3⟩ := ar_o (C := RX6) (va_AO.of (hts (.arrayOver (.object RX6)) (by decide +kernel)))
  obtain ⟨a4, g4⟩ := ar_o (C := RX4) (va_AO.of (hts (.arrayOver (.object RX4)) (by decide +kernel)))
  obtain ⟨a5, g5⟩ := ar_o (C := RX3) (va_AO.of (hts (.arrayOver (.object RX3)) (by decide +kernel)))
  refine ⟨(fun k => [c0, c1, c2, c3, c4, c5, c6, c7, c8].getD k c0, fun k => [i0, i1, i2, i3, i4, i5, i6, i7, i8].getD k i0), fun k => [a0, a1, a2, a3, a4, a5].getD k a0, fun k q hq => ?_, fun k q hq => ?_⟩
  · match k, hq with
    | 0, hq => cases hq; exact h0
    | 1, hq => cases hq; exact h1
    | 2, hq => cases hq; exact h2
    | 3, hq => cases hq; exact h3
    | 4, hq => cases hq; exact h4
    | 5, hq => cases hq; exact h5
    | 6, hq => cases hq; exact h6
    | 7, hq => cases hq; exact h7
    | 8, hq => cases hq; exact h8
    | k + 9, hq => simp [classes] at hq
  · match k, hq with
    | 0, hq => cases hq; exact g0
    | 1, hq => cases hq; exact g1
    | 2, hq => cases hq; exact g2
    | 3, hq => cases hq; exact g3
    | 4, hq => cases hq; exact g4
    | 5, hq => cases hq; exact g5
    | k + 6, hq => simp [ctys] at hq
