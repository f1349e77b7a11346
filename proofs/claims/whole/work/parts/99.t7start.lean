theorem def_7 : ∀ j, j < 15 → defaultValue (tyX7 j) = vp_V ([.null, .null, .int 0, .null, .null, .null, .null, .int 0, .null, .null, .null, .null, .null, .null, .null] : List Value) j := fun j hj => by
  rcases (show j = 0 ∨ j = 1 ∨ j = 2 ∨ j = 3 ∨ j = 4 ∨ j = 5 ∨ j = 6 ∨ j = 7 ∨ j = 8 ∨ j = 9 ∨ j = 10 ∨ j = 11 ∨ j = 12 ∨ j = 13 ∨ j = 14 by omega) with rfl | rfl | rfl | rfl | rfl | rfl | rfl | rfl | rfl | rfl | rfl | rfl | rfl | rfl | rfl <;> rfl
theorem def_8 : ∀ j, j < 34 → defaultValue (tyX8 j) = vp_V ([.null, .null, .int 0, .null, .null, .null, .null, .int 0, .null, .null, .null, .int 0, .int 0, .int 0, .int 0, .int 0, .null, .null, .null, .null, .null, .null, .int 0, .null, .null, .null, .null, .null, .null, .null, .null, .null, .null, .int 0] : List Value) j := fun j hj => by
  rcases (show j = 0 ∨ j = 1 ∨ j = 2 ∨ j = 3 ∨ j = 4 ∨ j = 5 ∨ j = 6 ∨ j = 7 ∨ j = 8 ∨ j = 9 ∨ j = 10 ∨ j = 11 ∨ j = 12 ∨ j = 13 ∨ j = 14 ∨ j = 15 ∨ j = 16 ∨ j = 17 ∨ j = 18 ∨ j = 19 ∨ j = 20 ∨ j = 21 ∨ j = 22 ∨ j = 23 ∨ j = 24 ∨ j = 25 ∨ j = 26 ∨ j = 27 ∨ j = 28 ∨ j = 29 ∨ j = 30 ∨ j = 31 ∨ j = 32 ∨ j = 33 by omega) with rfl | rfl | rfl | rfl | rfl | rfl | rfl | rfl | rfl | rfl | rfl | rfl | rfl | rfl | rfl | rfl | rfl | rfl | rfl | rfl | rfl | rfl | rfl | rfl | rfl | rfl | rfl | rfl | rfl | rfl | rfl | rfl | rfl | rfl <;> rfl
/-- the law's start: both objects are made -/
theorem law_new {l : Launch} {D : va_G} {ca : Nat → ClassId} {Γ : Gm} {b : Nat} {tx : Nat → Nat} (hB : Bb D ca Γ M_L_law (A0 (Gm.s Γ)) 600000 7302250) (hXW : XW tx (Gm.s Γ)) (kk : ∀ (q0 q1 : Nat) (u v : Nat → Nat), Bld l D Γ (A0 (Gm.s Γ)) 18 [(3, .int (I 0)), (2, .ref q1), (1, .ref q0), (0, .ref b)] [] (wsN ca q0 q1 tx u v) 78 2132) : Bld l D Γ (A0 (Gm.s Γ)) 0 [(0, .ref b)] [] [] 0 0 := by
  refine B_new hB 7 cf_7 tyX7 tyX7_ok [.null, .null, .int 0, .null, .null, .null, .null, .int 0, .null, .null, .null, .null, .null, .null, .null] def_7 bw_19 bw_20 bw_1 (by decide) (by decide) dL_law_0 (fun q0 => ?_)
  refine B_ws (ws' := [(q0, .inr (7, [.null, .null, .int 0, .null, .null, .null, .null, .int 0, .null, .null, .null, .null, .null, .null, .null]))]) rfl ?_
  refine B_dup hB dL_law_3 rfl ?_
  refine B_init hB (n := 0) 0 (cs_7 l D ca q0 tx) (fun U g mk a h => h.same rfl) (fun U hW => hXW.warm hW) bw_1 bw_21 bw_22 bw_23 rfl ⟨by decide +kernel, by decide +kernel, by decide +kernel⟩ ⟨by decide, by decide⟩ dL_law_4 rfl rfl (Nat.le_of_ble_eq_true rfl) ⟨by decide, by decide⟩ rfl [] [] rfl rfl (fun i h => absurd h List.not_mem_nil) (fun u => ?_)
  refine B_ws (ws' := po_7 ca q0 tx u) rfl ?_
  refine B_astore_n hB (L' := [_, _]) dL_law_7 rfl (Nat.le_of_ble_eq_true rfl) rfl ?_
  refine B_new hB 8 cf_8 tyX8 tyX8_ok [.null, .null, .int 0, .null, .null, .null, .null, .int 0, .null, .null, .null, .int 0, .int 0, .int 0, .int 0, .int 0, .null, .null, .null, .null, .null, .null, .int 0, .null, .null, .null, .null, .null, .null, .null, .null, .null, .null, .int 0] def_8 bw_725 bw_726 bw_9 (by decide) (by decide) dL_law_8 (fun q1 => ?_)
  refine B_dup hB dL_law_11 rfl ?_
  refine B_init hB (n := 0) 52 (cs_8 l D ca q1) (fun _ _ _ _ _ => trivial) (fun _ _ => trivial) bw_9 bw_727 bw_728 bw_729 rfl ⟨by decide +kernel, by decide +kernel, by decide +kernel⟩ ⟨by decide, by decide⟩ dL_law_12 rfl rfl (Nat.le_of_ble_eq_true rfl) ⟨by decide, by decide⟩ rfl (List.range 52) (po_7 ca q0 tx u) rfl (by decide +kernel) (by decide +kernel) (fun v => ?_)
  refine B_astore_n hB (L' := [_, _, _]) dL_law_15 rfl (Nat.le_of_ble_eq_true rfl) rfl ?_
  refine B_iconst hB dL_law_16 ?_
  refine B_istore_n hB (L' := [_, _, _, _]) dL_law_17 rfl (Nat.le_of_ble_eq_true rfl) rfl ?_
  exact kk q0 q1 u v
/-- YOUR PART: from the entry, for every script of at most 3072 ints, the law comes to its end with true -/
theorem whole_start {p : Program} {e : Env} {s : State} {m : MethodId} {below : List Frame} {meth : Method} {c : Code} (l : Launch) {b L : Nat} {xs : Nat → Int32} (hL : L ≤ 3072) (C0 : lw_At p s m meth c b L xs) : W p l e room_1 s m #[Value.ref b] below meth c s.heap [] 0 0 (lw_Z below #[Value.ref b] s) (entryFrame m ([Value.ref b] : List Value).toArray 4) := by
  obtain ⟨hx, hb, hr, hml, hown, hts, hX, hbl, hlocks, hgv⟩ := id C0
  have htt : ∀ w ∈ TT, w.before #[Value.ref b] s = true := fun w h => hts w (List.mem_filter.mp h).1
  obtain ⟨D, ca, hK⟩ := kk_of hts
  obtain ⟨t0, hz0⟩ := tb_0 hts hgv
  obtain ⟨t1, hz1⟩ := tb_1 hts hgv
  obtain ⟨t2, hz2⟩ := tb_2 hts hgv
  obtain ⟨t3, hz3⟩ := tb_3 hts hgv
  obtain ⟨tx, bt, hsS, hsE⟩ := tb_s hts hgv
  have hXW : XW tx s := xw_of hts (hsE 0 (by decide)) (hsE 1 (by decide))
  have hB : Bb D ca ((p, e, room_1, s, m, #[Value.ref b], below, meth, c, 0, 0, lw_Z below #[Value.ref b] s) : Gm) M_L_law (A0 s) 600000 7302250 := ⟨⟨hx, hb, hml, hown, htt⟩, hK, fun q h => h, rfl, rfl, rfl, rfl⟩
  have key := law_new (l := l) (b := b) hB hXW (fun q0 q1 u v H ls locs hLs hP hD hS => by
    have hge : ∀ i, i < 78 → s.heap.size ≤ rN q0 q1 u v i := fun i hi => by
      obtain ⟨en, he⟩ := wsN_get ca q0 q1 tx u v hi
      exact hD.2 _ _ he
    have hinj : ∀ i j, i < 78 → j < 78 → rN q0 q1 u v i = rN q0 q1 u v j → i = j := fun i j hi hj hij => by
      obtain ⟨e1, he1⟩ := wsN_get ca q0 q1 tx u v hi
      obtain ⟨e2, he2⟩ := wsN_get ca q0 q1 tx u v hj
      exact plN_inj i hi j hj (hD.1 _ _ _ _ he1 he2 hij)
    have hAA : ∀ q, AA ((l, D, ca, rN q0 q1 u v, fun t => [t0, t1, t2, t3].getD t 0, tx, bt) : Th) q → A0 s q := fun q ⟨i, hi, e⟩ => by
      rw [e]; exact hge i hi
    have hKS : KS ((l, D, ca, rN q0 q1 u v, fun t => [t0, t1, t2, t3].getD t 0, tx, bt) : Th) s := by
      refine ⟨hK, hinj, fun t ht => ?_, (tb_c hts hgv).narrow hAA, hsS.narrow hAA, nw_of hts⟩
      rcases (show t = 0 ∨ t = 1 ∨ t = 2 ∨ t = 3 by omega) with rfl | rfl | rfl | rfl
      · exact ⟨hz0.1.narrow hAA, hz0.2.narrow hAA⟩
      · exact ⟨hz1.1.narrow hAA, hz1.2.narrow hAA⟩
      · exact ⟨hz2.1.narrow hAA, hz2.2.narrow hAA⟩
      · exact ⟨hz3.1.narrow hAA, hz3.2.narrow hAA⟩
    have hW : LwB ((l, D, ca, rN q0 q1 u v, fun t => [t0, t1, t2, t3].getD t 0, tx, bt) : Th) ((p, e, room_1, s, m, #[Value.ref b], below, meth, c, 78, 2132, lw_Z below #[Value.ref b] s) : Gm) b L xs :=
      ⟨⟨⟨hx, hb, hml, hown, htt⟩, hKS, rfl, rfl, ⟨(by decide : 78 ≤ 600000), (by decide : 2132 ≤ 7302250)⟩, hr, hlocks⟩, hX, hbl, hge, hL, rfl, rfl, rfl, (by decide : 78 ≤ 600000), (by decide : 2132 ≤ 7302250)⟩
    have hrun := law_loop hW 4000 0 σ0 (by decide) (by decide) jj0 canon0 H ls [] (lv_sub hLs [3, 2, 1, 0] rfl) (cellsN hP) ⟨hS.1, fun q h1 h2 => hS.2.1 q h1 (A0_no q h1), fun q h => absurd h List.not_mem_nil⟩
    exact va_forget (fun q hq => hS.2.2 q hq) hrun)
  have hrun := key s.heap _ [] (by rw [show (Gm.c ((p, e, room_1, s, m, #[Value.ref b], below, meth, c, 0, 0, lw_Z below #[Value.ref b] s) : Gm)).maxLocals = 4 from hml]; exact lv_entry [.ref b] (n := 4) (Nat.le_of_ble_eq_true rfl)) (fun k q h => by simp at h) ⟨fun i j p q h => by simp at h, fun k q h => by simp at h⟩ va_S.rf
  rw [lg_entry_eq]
  exact hrun
