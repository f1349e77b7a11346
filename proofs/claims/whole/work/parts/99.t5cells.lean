/-! the world behind both constructors is the memory's -/
abbrev wsN (ca : Nat → ClassId) (q0 q1 : Nat) (tx u v : Nat → Nat) : va_W := po_7 ca q0 tx u ++ po_8 ca q1 v
def plN (i : Nat) : Nat := [0, 52, 3, 15, 9, 20, 25, 14, 36, 37, 38, 39, 40, 41, 42, 43, 30, 33, 44, 46, 48, 50, 1, 2, 13, 8, 27, 28, 29, 31, 34, 32, 35, 4, 5, 6, 7, 16, 17, 18, 19, 10, 11, 12, 21, 22, 23, 24, 26, 45, 47, 49, 51, 53, 54, 55, 56, 57, 58, 59, 60, 61, 62, 63, 64, 65, 66, 67, 68, 69, 70, 71, 72, 73, 74, 75, 76, 77].getD i 0
theorem plN_lt : ∀ i, i < 78 → plN i < 78 := by decide +kernel
theorem plN_inj : ∀ i, i < 78 → ∀ j, j < 78 → plN i = plN j → i = j := by decide +kernel
def adN (q0 q1 : Nat) (u v : Nat → Nat) : List Nat := [q0, q1, u 2, u 14, u 8, u 19, u 24, u 13, u 35, u 36, u 37, u 38, u 39, u 40, u 41, u 42, u 29, u 32, u 43, u 45, u 47, u 49, u 0, u 1, u 12, u 7, u 26, u 27, u 28, u 30, u 33, u 31, u 34, u 3, u 4, u 5, u 6, u 15, u 16, u 17, u 18, u 9, u 10, u 11, u 20, u 21, u 22, u 23, u 25, u 44, u 46, u 48, u 50, v 0, v 1, v 2, v 3, v 4, v 5, v 6, v 7, v 8, v 9, v 10, v 11, v 12, v 13, v 14, v 15, v 16, v 17, v 18, v 19, v 20, v 21, v 22, v 23, v 24]
def rN (q0 q1 : Nat) (u v : Nat → Nat) (i : Nat) : Nat := (adN q0 q1 u v).getD i 0
theorem wsN_at (ca : Nat → ClassId) (q0 q1 : Nat) (tx u v : Nat → Nat) : (List.range 78).map (fun i => ((wsN ca q0 q1 tx u v).map Prod.fst)[plN i]?) = (adN q0 q1 u v).map some := rfl
theorem wsN_get (ca : Nat → ClassId) (q0 q1 : Nat) (tx u v : Nat → Nat) {i : Nat} (hi : i < 78) : ∃ e, (wsN ca q0 q1 tx u v)[plN i]? = some (rN q0 q1 u v i, e) := by
  have h := congrArg (fun l => l[i]?) (wsN_at ca q0 q1 tx u v)
  simp only [List.getElem?_map, List.getElem?_range hi, Option.map_some] at h
  have hlen : i < (adN q0 q1 u v).length := hi
  rw [List.getElem?_eq_getElem hlen, Option.map_some] at h
  have h2 := Option.some.inj h
  cases hq : (wsN ca q0 q1 tx u v)[plN i]? with
  | none => rw [hq] at h2; cases h2
  | some w =>
    rw [hq] at h2
    have h3 : w.1 = (adN q0 q1 u v)[i] := Option.some.inj h2
    refine ⟨w.2, ?_⟩
    have h4 : rN q0 q1 u v i = w.1 := by
      unfold rN
      rw [List.getD_eq_getElem?_getD, List.getElem?_eq_getElem hlen, h3]; rfl
    rw [h4]
theorem cl_k : (I 0).toNatClampNeg = 0 ∧ (I 1).toNatClampNeg = 1 ∧ (I 2).toNatClampNeg = 2 ∧ (I 3).toNatClampNeg = 3 ∧ (I 4).toNatClampNeg = 4 ∧ (I 5).toNatClampNeg = 5 ∧ (I 6).toNatClampNeg = 6 ∧ (I 7).toNatClampNeg = 7 := by decide +kernel
theorem arr_cg {cA : ClassId} {n : Nat} {f g : Nat → Value} (h : ∀ j, j < n → f j = g j) : arrV cA n f = arrV cA n g := by
  unfold arrV
  congr 1
  apply congrArg
  funext j
  exact h j.1 j.2
theorem at_i {D : va_G} {a : Nat} {cA : ClassId} {n : Nat} {f g : Nat → Int32} {H : Heap} (h : va_at D classes (a, .inl (cA, n, .inl f)) H) (e : ∀ j, j < n → f j = g j) : va_at D classes (a, .inl (cA, n, .inl g)) H := by
  have h : H[a]? = some (arrV cA n (fun j => .int (f j))) := h
  show H[a]? = some (arrV cA n (fun j => .int (g j)))
  rw [h, arr_cg (fun j hj => by rw [e j hj])]
theorem at_q {D : va_G} {a : Nat} {cA : ClassId} {n : Nat} {f g : Nat → Option Nat} {H : Heap} (h : va_at D classes (a, .inl (cA, n, .inr (.inr (.inr (.inr f))))) H) (e : ∀ j, j < n → f j = g j) : va_at D classes (a, .inl (cA, n, .inr (.inr (.inr (.inr g))))) H := by
  have h : H[a]? = some (arrV cA n (fun j => va_rf (f j))) := h
  show H[a]? = some (arrV cA n (fun j => va_rf (g j)))
  rw [h, arr_cg (fun j hj => by rw [e j hj])]
theorem cw_0 {l : Launch} {D : va_G} {ca : Nat → ClassId} {q0 q1 : Nat} {u v st tx bt : Nat → Nat} {H : Heap} (hP : va_P D classes (wsN ca q0 q1 tx u v) H) : va_at D classes (Th.r ((l, D, ca, rN q0 q1 u v, st, tx, bt) : Th) 0, cellE ((l, D, ca, rN q0 q1 u v, st, tx, bt) : Th) σ0 0) H := by
  exact hP 0 _ rfl
theorem cw_1 {l : Launch} {D : va_G} {ca : Nat → ClassId} {q0 q1 : Nat} {u v st tx bt : Nat → Nat} {H : Heap} (hP : va_P D classes (wsN ca q0 q1 tx u v) H) : va_at D classes (Th.r ((l, D, ca, rN q0 q1 u v, st, tx, bt) : Th) 1, cellE ((l, D, ca, rN q0 q1 u v, st, tx, bt) : Th) σ0 1) H := by
  exact hP 52 _ rfl
theorem cw_2 {l : Launch} {D : va_G} {ca : Nat → ClassId} {q0 q1 : Nat} {u v st tx bt : Nat → Nat} {H : Heap} (hP : va_P D classes (wsN ca q0 q1 tx u v) H) : va_at D classes (Th.r ((l, D, ca, rN q0 q1 u v, st, tx, bt) : Th) 2, cellE ((l, D, ca, rN q0 q1 u v, st, tx, bt) : Th) σ0 2) H := by
  exact hP 3 _ rfl
theorem cw_3 {l : Launch} {D : va_G} {ca : Nat → ClassId} {q0 q1 : Nat} {u v st tx bt : Nat → Nat} {H : Heap} (hP : va_P D classes (wsN ca q0 q1 tx u v) H) : va_at D classes (Th.r ((l, D, ca, rN q0 q1 u v, st, tx, bt) : Th) 3, cellE ((l, D, ca, rN q0 q1 u v, st, tx, bt) : Th) σ0 3) H := by
  exact hP 15 _ rfl
theorem cw_4 {l : Launch} {D : va_G} {ca : Nat → ClassId} {q0 q1 : Nat} {u v st tx bt : Nat → Nat} {H : Heap} (hP : va_P D classes (wsN ca q0 q1 tx u v) H) : va_at D classes (Th.r ((l, D, ca, rN q0 q1 u v, st, tx, bt) : Th) 4, cellE ((l, D, ca, rN q0 q1 u v, st, tx, bt) : Th) σ0 4) H := by
  exact hP 9 _ rfl
theorem cw_5 {l : Launch} {D : va_G} {ca : Nat → ClassId} {q0 q1 : Nat} {u v st tx bt : Nat → Nat} {H : Heap} (hP : va_P D classes (wsN ca q0 q1 tx u v) H) : va_at D classes (Th.r ((l, D, ca, rN q0 q1 u v, st, tx, bt) : Th) 5, cellE ((l, D, ca, rN q0 q1 u v, st, tx, bt) : Th) σ0 5) H := by
  exact hP 20 _ rfl
theorem cw_6 {l : Launch} {D : va_G} {ca : Nat → ClassId} {q0 q1 : Nat} {u v st tx bt : Nat → Nat} {H : Heap} (hP : va_P D classes (wsN ca q0 q1 tx u v) H) : va_at D classes (Th.r ((l, D, ca, rN q0 q1 u v, st, tx, bt) : Th) 6, cellE ((l, D, ca, rN q0 q1 u v, st, tx, bt) : Th) σ0 6) H := by
  exact hP 25 _ rfl
theorem cw_7 {l : Launch} {D : va_G} {ca : Nat → ClassId} {q0 q1 : Nat} {u v st tx bt : Nat → Nat} {H : Heap} (hP : va_P D classes (wsN ca q0 q1 tx u v) H) : va_at D classes (Th.r ((l, D, ca, rN q0 q1 u v, st, tx, bt) : Th) 7, cellE ((l, D, ca, rN q0 q1 u v, st, tx, bt) : Th) σ0 7) H := by
  exact hP 14 _ rfl
theorem cw_8 {l : Launch} {D : va_G} {ca : Nat → ClassId} {q0 q1 : Nat} {u v st tx bt : Nat → Nat} {H : Heap} (hP : va_P D classes (wsN ca q0 q1 tx u v) H) : va_at D classes (Th.r ((l, D, ca, rN q0 q1 u v, st, tx, bt) : Th) 8, cellE ((l, D, ca, rN q0 q1 u v, st, tx, bt) : Th) σ0 8) H := by
  exact hP 36 _ rfl
theorem cw_9 {l : Launch} {D : va_G} {ca : Nat → ClassId} {q0 q1 : Nat} {u v st tx bt : Nat → Nat} {H : Heap} (hP : va_P D classes (wsN ca q0 q1 tx u v) H) : va_at D classes (Th.r ((l, D, ca, rN q0 q1 u v, st, tx, bt) : Th) 9, cellE ((l, D, ca, rN q0 q1 u v, st, tx, bt) : Th) σ0 9) H := by
  exact hP 37 _ rfl
theorem cw_10 {l : Launch} {D : va_G} {ca : Nat → ClassId} {q0 q1 : Nat} {u v st tx bt : Nat → Nat} {H : Heap} (hP : va_P D classes (wsN ca q0 q1 tx u v) H) : va_at D classes (Th.r ((l, D, ca, rN q0 q1 u v, st, tx, bt) : Th) 10, cellE ((l, D, ca, rN q0 q1 u v, st, tx, bt) : Th) σ0 10) H := by
  exact hP 38 _ rfl
theorem cw_11 {l : Launch} {D : va_G} {ca : Nat → ClassId} {q0 q1 : Nat} {u v st tx bt : Nat → Nat} {H : Heap} (hP : va_P D classes (wsN ca q0 q1 tx u v) H) : va_at D classes (Th.r ((l, D, ca, rN q0 q1 u v, st, tx, bt) : Th) 11, cellE ((l, D, ca, rN q0 q1 u v, st, tx, bt) : Th) σ0 11) H := by
  exact hP 39 _ rfl
theorem cw_12 {l : Launch} {D : va_G} {ca : Nat → ClassId} {q0 q1 : Nat} {u v st tx bt : Nat → Nat} {H : Heap} (hP : va_P D classes (wsN ca q0 q1 tx u v) H) : va_at D classes (Th.r ((l, D, ca, rN q0 q1 u v, st, tx, bt) : Th) 12, cellE ((l, D, ca, rN q0 q1 u v, st, tx, bt) : Th) σ0 12) H := by
  exact hP 40 _ rfl
theorem cw_13 {l : Launch} {D : va_G} {ca : Nat → ClassId} {q0 q1 : Nat} {u v st tx bt : Nat → Nat} {H : Heap} (hP : va_P D classes (wsN ca q0 q1 tx u v) H) : va_at D classes (Th.r ((l, D, ca, rN q0 q1 u v, st, tx, bt) : Th) 13, cellE ((l, D, ca, rN q0 q1 u v, st, tx, bt) : Th) σ0 13) H := by
  exact hP 41 _ rfl
theorem cw_14 {l : Launch} {D : va_G} {ca : Nat → ClassId} {q0 q1 : Nat} {u v st tx bt : Nat → Nat} {H : Heap} (hP : va_P D classes (wsN ca q0 q1 tx u v) H) : va_at D classes (Th.r ((l, D, ca, rN q0 q1 u v, st, tx, bt) : Th) 14, cellE ((l, D, ca, rN q0 q1 u v, st, tx, bt) : Th) σ0 14) H := by
  exact hP 42 _ rfl
theorem cw_15 {l : Launch} {D : va_G} {ca : Nat → ClassId} {q0 q1 : Nat} {u v st tx bt : Nat → Nat} {H : Heap} (hP : va_P D classes (wsN ca q0 q1 tx u v) H) : va_at D classes (Th.r ((l, D, ca, rN q0 q1 u v, st, tx, bt) : Th) 15, cellE ((l, D, ca, rN q0 q1 u v, st, tx, bt) : Th) σ0 15) H := by
  exact hP 43 _ rfl
theorem cw_16 {l : Launch} {D : va_G} {ca : Nat → ClassId} {q0 q1 : Nat} {u v st tx bt : Nat → Nat} {H : Heap} (hP : va_P D classes (wsN ca q0 q1 tx u v) H) : va_at D classes (Th.r ((l, D, ca, rN q0 q1 u v, st, tx, bt) : Th) 16, cellE ((l, D, ca, rN q0 q1 u v, st, tx, bt) : Th) σ0 16) H := by
  exact hP 30 _ rfl
theorem cw_17 {l : Launch} {D : va_G} {ca : Nat → ClassId} {q0 q1 : Nat} {u v st tx bt : Nat → Nat} {H : Heap} (hP : va_P D classes (wsN ca q0 q1 tx u v) H) : va_at D classes (Th.r ((l, D, ca, rN q0 q1 u v, st, tx, bt) : Th) 17, cellE ((l, D, ca, rN q0 q1 u v, st, tx, bt) : Th) σ0 17) H := by
  exact hP 33 _ rfl
theorem cw_18 {l : Launch} {D : va_G} {ca : Nat → ClassId} {q0 q1 : Nat} {u v st tx bt : Nat → Nat} {H : Heap} (hP : va_P D classes (wsN ca q0 q1 tx u v) H) : va_at D classes (Th.r ((l, D, ca, rN q0 q1 u v, st, tx, bt) : Th) 18, cellE ((l, D, ca, rN q0 q1 u v, st, tx, bt) : Th) σ0 18) H := by
  exact hP 44 _ rfl
theorem cw_19 {l : Launch} {D : va_G} {ca : Nat → ClassId} {q0 q1 : Nat} {u v st tx bt : Nat → Nat} {H : Heap} (hP : va_P D classes (wsN ca q0 q1 tx u v) H) : va_at D classes (Th.r ((l, D, ca, rN q0 q1 u v, st, tx, bt) : Th) 19, cellE ((l, D, ca, rN q0 q1 u v, st, tx, bt) : Th) σ0 19) H := by
  exact hP 46 _ rfl
theorem cw_20 {l : Launch} {D : va_G} {ca : Nat → ClassId} {q0 q1 : Nat} {u v st tx bt : Nat → Nat} {H : Heap} (hP : va_P D classes (wsN ca q0 q1 tx u v) H) : va_at D classes (Th.r ((l, D, ca, rN q0 q1 u v, st, tx, bt) : Th) 20, cellE ((l, D, ca, rN q0 q1 u v, st, tx, bt) : Th) σ0 20) H := by
  exact hP 48 _ rfl
theorem cw_21 {l : Launch} {D : va_G} {ca : Nat → ClassId} {q0 q1 : Nat} {u v st tx bt : Nat → Nat} {H : Heap} (hP : va_P D classes (wsN ca q0 q1 tx u v) H) : va_at D classes (Th.r ((l, D, ca, rN q0 q1 u v, st, tx, bt) : Th) 21, cellE ((l, D, ca, rN q0 q1 u v, st, tx, bt) : Th) σ0 21) H := by
  exact hP 50 _ rfl
theorem cw_22 {l : Launch} {D : va_G} {ca : Nat → ClassId} {q0 q1 : Nat} {u v st tx bt : Nat → Nat} {H : Heap} (hP : va_P D classes (wsN ca q0 q1 tx u v) H) : va_at D classes (Th.r ((l, D, ca, rN q0 q1 u v, st, tx, bt) : Th) 22, cellE ((l, D, ca, rN q0 q1 u v, st, tx, bt) : Th) σ0 22) H := by
  refine at_q (hP 1 _ rfl) (fun j hj => ?_)
  have hj : j < 2 := hj
  obtain ⟨k0, k1, k2, k3, k4, k5, k6, k7⟩ := cl_k
  rw [k0, k1]
  rcases (show j = 0 ∨ j = 1 by omega) with rfl | rfl <;> rfl
theorem cw_23 {l : Launch} {D : va_G} {ca : Nat → ClassId} {q0 q1 : Nat} {u v st tx bt : Nat → Nat} {H : Heap} (hP : va_P D classes (wsN ca q0 q1 tx u v) H) : va_at D classes (Th.r ((l, D, ca, rN q0 q1 u v, st, tx, bt) : Th) 23, cellE ((l, D, ca, rN q0 q1 u v, st, tx, bt) : Th) σ0 23) H := by
  refine at_q (hP 2 _ rfl) (fun j hj => ?_)
  have hj : j < 8 := hj
  obtain ⟨k0, k1, k2, k3, k4, k5, k6, k7⟩ := cl_k
  rw [k0, k1, k2, k3, k4, k5, k6, k7]
  rcases (show j = 0 ∨ j = 1 ∨ j = 2 ∨ j = 3 ∨ j = 4 ∨ j = 5 ∨ j = 6 ∨ j = 7 by omega) with rfl | rfl | rfl | rfl | rfl | rfl | rfl | rfl <;> rfl
theorem cw_24 {l : Launch} {D : va_G} {ca : Nat → ClassId} {q0 q1 : Nat} {u v st tx bt : Nat → Nat} {H : Heap} (hP : va_P D classes (wsN ca q0 q1 tx u v) H) : va_at D classes (Th.r ((l, D, ca, rN q0 q1 u v, st, tx, bt) : Th) 24, cellE ((l, D, ca, rN q0 q1 u v, st, tx, bt) : Th) σ0 24) H := by
  refine at_q (hP 13 _ rfl) (fun j hj => ?_)
  have hj : j < 4 := hj
  obtain ⟨k0, k1, k2, k3, k4, k5, k6, k7⟩ := cl_k
  rw [k0, k1, k2, k3]
  rcases (show j = 0 ∨ j = 1 ∨ j = 2 ∨ j = 3 by omega) with rfl | rfl | rfl | rfl <;> rfl
theorem cw_25 {l : Launch} {D : va_G} {ca : Nat → ClassId} {q0 q1 : Nat} {u v st tx bt : Nat → Nat} {H : Heap} (hP : va_P D classes (wsN ca q0 q1 tx u v) H) : va_at D classes (Th.r ((l, D, ca, rN q0 q1 u v, st, tx, bt) : Th) 25, cellE ((l, D, ca, rN q0 q1 u v, st, tx, bt) : Th) σ0 25) H := by
  refine at_i (hP 8 _ rfl) (fun j hj => ?_)
  have hj : j < 3 := hj
  obtain ⟨k0, k1, k2, -⟩ := cl_k
  rw [k0, k1, k2]
  rcases (show j = 0 ∨ j = 1 ∨ j = 2 by omega) with rfl | rfl | rfl <;> rfl
theorem cw_26 {l : Launch} {D : va_G} {ca : Nat → ClassId} {q0 q1 : Nat} {u v st tx bt : Nat → Nat} {H : Heap} (hP : va_P D classes (wsN ca q0 q1 tx u v) H) : va_at D classes (Th.r ((l, D, ca, rN q0 q1 u v, st, tx, bt) : Th) 26, cellE ((l, D, ca, rN q0 q1 u v, st, tx, bt) : Th) σ0 26) H := by
  exact hP 27 _ rfl
theorem cw_27 {l : Launch} {D : va_G} {ca : Nat → ClassId} {q0 q1 : Nat} {u v st tx bt : Nat → Nat} {H : Heap} (hP : va_P D classes (wsN ca q0 q1 tx u v) H) : va_at D classes (Th.r ((l, D, ca, rN q0 q1 u v, st, tx, bt) : Th) 27, cellE ((l, D, ca, rN q0 q1 u v, st, tx, bt) : Th) σ0 27) H := by
  exact hP 28 _ rfl
theorem cw_28 {l : Launch} {D : va_G} {ca : Nat → ClassId} {q0 q1 : Nat} {u v st tx bt : Nat → Nat} {H : Heap} (hP : va_P D classes (wsN ca q0 q1 tx u v) H) : va_at D classes (Th.r ((l, D, ca, rN q0 q1 u v, st, tx, bt) : Th) 28, cellE ((l, D, ca, rN q0 q1 u v, st, tx, bt) : Th) σ0 28) H := by
  exact hP 29 _ rfl
theorem cw_29 {l : Launch} {D : va_G} {ca : Nat → ClassId} {q0 q1 : Nat} {u v st tx bt : Nat → Nat} {H : Heap} (hP : va_P D classes (wsN ca q0 q1 tx u v) H) : va_at D classes (Th.r ((l, D, ca, rN q0 q1 u v, st, tx, bt) : Th) 29, cellE ((l, D, ca, rN q0 q1 u v, st, tx, bt) : Th) σ0 29) H := by
  exact hP 31 _ rfl
theorem cw_30 {l : Launch} {D : va_G} {ca : Nat → ClassId} {q0 q1 : Nat} {u v st tx bt : Nat → Nat} {H : Heap} (hP : va_P D classes (wsN ca q0 q1 tx u v) H) : va_at D classes (Th.r ((l, D, ca, rN q0 q1 u v, st, tx, bt) : Th) 30, cellE ((l, D, ca, rN q0 q1 u v, st, tx, bt) : Th) σ0 30) H := by
  exact hP 34 _ rfl
theorem cw_31 {l : Launch} {D : va_G} {ca : Nat → ClassId} {q0 q1 : Nat} {u v st tx bt : Nat → Nat} {H : Heap} (hP : va_P D classes (wsN ca q0 q1 tx u v) H) : va_at D classes (Th.r ((l, D, ca, rN q0 q1 u v, st, tx, bt) : Th) 31, cellE ((l, D, ca, rN q0 q1 u v, st, tx, bt) : Th) σ0 31) H := by
  refine at_i (hP 32 _ rfl) (fun j hj => ?_)
  have hj : j < 3 := hj
  obtain ⟨k0, k1, k2, -⟩ := cl_k
  rw [k0, k1, k2]
  rcases (show j = 0 ∨ j = 1 ∨ j = 2 by omega) with rfl | rfl | rfl <;> rfl
theorem cw_32 {l : Launch} {D : va_G} {ca : Nat → ClassId} {q0 q1 : Nat} {u v st tx bt : Nat → Nat} {H : Heap} (hP : va_P D classes (wsN ca q0 q1 tx u v) H) : va_at D classes (Th.r ((l, D, ca, rN q0 q1 u v, st, tx, bt) : Th) 32, cellE ((l, D, ca, rN q0 q1 u v, st, tx, bt) : Th) σ0 32) H := by
  refine at_i (hP 35 _ rfl) (fun j hj => ?_)
  have hj : j < 3 := hj
  obtain ⟨k0, k1, k2, -⟩ := cl_k
  rw [k0, k1, k2]
  rcases (show j = 0 ∨ j = 1 ∨ j = 2 by omega) with rfl | rfl | rfl <;> rfl
theorem cw_33 {l : Launch} {D : va_G} {ca : Nat → ClassId} {q0 q1 : Nat} {u v st tx bt : Nat → Nat} {H : Heap} (hP : va_P D classes (wsN ca q0 q1 tx u v) H) : va_at D classes (Th.r ((l, D, ca, rN q0 q1 u v, st, tx, bt) : Th) 33, cellE ((l, D, ca, rN q0 q1 u v, st, tx, bt) : Th) σ0 33) H := by
  exact hP 4 _ rfl
theorem cw_34 {l : Launch} {D : va_G} {ca : Nat → ClassId} {q0 q1 : Nat} {u v st tx bt : Nat → Nat} {H : Heap} (hP : va_P D classes (wsN ca q0 q1 tx u v) H) : va_at D classes (Th.r ((l, D, ca, rN q0 q1 u v, st, tx, bt) : Th) 34, cellE ((l, D, ca, rN q0 q1 u v, st, tx, bt) : Th) σ0 34) H := by
  exact hP 5 _ rfl
theorem cw_35 {l : Launch} {D : va_G} {ca : Nat → ClassId} {q0 q1 : Nat} {u v st tx bt : Nat → Nat} {H : Heap} (hP : va_P D classes (wsN ca q0 q1 tx u v) H) : va_at D classes (Th.r ((l, D, ca, rN q0 q1 u v, st, tx, bt) : Th) 35, cellE ((l, D, ca, rN q0 q1 u v, st, tx, bt) : Th) σ0 35) H := by
  exact hP 6 _ rfl
theorem cw_36 {l : Launch} {D : va_G} {ca : Nat → ClassId} {q0 q1 : Nat} {u v st tx bt : Nat → Nat} {H : Heap} (hP : va_P D classes (wsN ca q0 q1 tx u v) H) : va_at D classes (Th.r ((l, D, ca, rN q0 q1 u v, st, tx, bt) : Th) 36, cellE ((l, D, ca, rN q0 q1 u v, st, tx, bt) : Th) σ0 36) H := by
  exact hP 7 _ rfl
theorem cw_37 {l : Launch} {D : va_G} {ca : Nat → ClassId} {q0 q1 : Nat} {u v st tx bt : Nat → Nat} {H : Heap} (hP : va_P D classes (wsN ca q0 q1 tx u v) H) : va_at D classes (Th.r ((l, D, ca, rN q0 q1 u v, st, tx, bt) : Th) 37, cellE ((l, D, ca, rN q0 q1 u v, st, tx, bt) : Th) σ0 37) H := by
  exact hP 16 _ rfl
theorem cw_38 {l : Launch} {D : va_G} {ca : Nat → ClassId} {q0 q1 : Nat} {u v st tx bt : Nat → Nat} {H : Heap} (hP : va_P D classes (wsN ca q0 q1 tx u v) H) : va_at D classes (Th.r ((l, D, ca, rN q0 q1 u v, st, tx, bt) : Th) 38, cellE ((l, D, ca, rN q0 q1 u v, st, tx, bt) : Th) σ0 38) H := by
  exact hP 17 _ rfl
theorem cw_39 {l : Launch} {D : va_G} {ca : Nat → ClassId} {q0 q1 : Nat} {u v st tx bt : Nat → Nat} {H : Heap} (hP : va_P D classes (wsN ca q0 q1 tx u v) H) : va_at D classes (Th.r ((l, D, ca, rN q0 q1 u v, st, tx, bt) : Th) 39, cellE ((l, D, ca, rN q0 q1 u v, st, tx, bt) : Th) σ0 39) H := by
  exact hP 18 _ rfl
theorem cw_40 {l : Launch} {D : va_G} {ca : Nat → ClassId} {q0 q1 : Nat} {u v st tx bt : Nat → Nat} {H : Heap} (hP : va_P D classes (wsN ca q0 q1 tx u v) H) : va_at D classes (Th.r ((l, D, ca, rN q0 q1 u v, st, tx, bt) : Th) 40, cellE ((l, D, ca, rN q0 q1 u v, st, tx, bt) : Th) σ0 40) H := by
  exact hP 19 _ rfl
theorem cw_41 {l : Launch} {D : va_G} {ca : Nat → ClassId} {q0 q1 : Nat} {u v st tx bt : Nat → Nat} {H : Heap} (hP : va_P D classes (wsN ca q0 q1 tx u v) H) : va_at D classes (Th.r ((l, D, ca, rN q0 q1 u v, st, tx, bt) : Th) 41, cellE ((l, D, ca, rN q0 q1 u v, st, tx, bt) : Th) σ0 41) H := by
  exact hP 10 _ rfl
theorem cw_42 {l : Launch} {D : va_G} {ca : Nat → ClassId} {q0 q1 : Nat} {u v st tx bt : Nat → Nat} {H : Heap} (hP : va_P D classes (wsN ca q0 q1 tx u v) H) : va_at D classes (Th.r ((l, D, ca, rN q0 q1 u v, st, tx, bt) : Th) 42, cellE ((l, D, ca, rN q0 q1 u v, st, tx, bt) : Th) σ0 42) H := by
  exact hP 11 _ rfl
theorem cw_43 {l : Launch} {D : va_G} {ca : Nat → ClassId} {q0 q1 : Nat} {u v st tx bt : Nat → Nat} {H : Heap} (hP : va_P D classes (wsN ca q0 q1 tx u v) H) : va_at D classes (Th.r ((l, D, ca, rN q0 q1 u v, st, tx, bt) : Th) 43, cellE ((l, D, ca, rN q0 q1 u v, st, tx, bt) : Th) σ0 43) H := by
  exact hP 12 _ rfl
theorem cw_44 {l : Launch} {D : va_G} {ca : Nat → ClassId} {q0 q1 : Nat} {u v st tx bt : Nat → Nat} {H : Heap} (hP : va_P D classes (wsN ca q0 q1 tx u v) H) : va_at D classes (Th.r ((l, D, ca, rN q0 q1 u v, st, tx, bt) : Th) 44, cellE ((l, D, ca, rN q0 q1 u v, st, tx, bt) : Th) σ0 44) H := by
  exact hP 21 _ rfl
theorem cw_45 {l : Launch} {D : va_G} {ca : Nat → ClassId} {q0 q1 : Nat} {u v st tx bt : Nat → Nat} {H : Heap} (hP : va_P D classes (wsN ca q0 q1 tx u v) H) : va_at D classes (Th.r ((l, D, ca, rN q0 q1 u v, st, tx, bt) : Th) 45, cellE ((l, D, ca, rN q0 q1 u v, st, tx, bt) : Th) σ0 45) H := by
  exact hP 22 _ rfl
theorem cw_46 {l : Launch} {D : va_G} {ca : Nat → ClassId} {q0 q1 : Nat} {u v st tx bt : Nat → Nat} {H : Heap} (hP : va_P D classes (wsN ca q0 q1 tx u v) H) : va_at D classes (Th.r ((l, D, ca, rN q0 q1 u v, st, tx, bt) : Th) 46, cellE ((l, D, ca, rN q0 q1 u v, st, tx, bt) : Th) σ0 46) H := by
  exact hP 23 _ rfl
theorem cw_47 {l : Launch} {D : va_G} {ca : Nat → ClassId} {q0 q1 : Nat} {u v st tx bt : Nat → Nat} {H : Heap} (hP : va_P D classes (wsN ca q0 q1 tx u v) H) : va_at D classes (Th.r ((l, D, ca, rN q0 q1 u v, st, tx, bt) : Th) 47, cellE ((l, D, ca, rN q0 q1 u v, st, tx, bt) : Th) σ0 47) H := by
  exact hP 24 _ rfl
theorem cw_48 {l : Launch} {D : va_G} {ca : Nat → ClassId} {q0 q1 : Nat} {u v st tx bt : Nat → Nat} {H : Heap} (hP : va_P D classes (wsN ca q0 q1 tx u v) H) : va_at D classes (Th.r ((l, D, ca, rN q0 q1 u v, st, tx, bt) : Th) 48, cellE ((l, D, ca, rN q0 q1 u v, st, tx, bt) : Th) σ0 48) H := by
  exact hP 26 _ rfl
theorem cw_49 {l : Launch} {D : va_G} {ca : Nat → ClassId} {q0 q1 : Nat} {u v st tx bt : Nat → Nat} {H : Heap} (hP : va_P D classes (wsN ca q0 q1 tx u v) H) : va_at D classes (Th.r ((l, D, ca, rN q0 q1 u v, st, tx, bt) : Th) 49, cellE ((l, D, ca, rN q0 q1 u v, st, tx, bt) : Th) σ0 49) H := by
  exact hP 45 _ rfl
theorem cw_50 {l : Launch} {D : va_G} {ca : Nat → ClassId} {q0 q1 : Nat} {u v st tx bt : Nat → Nat} {H : Heap} (hP : va_P D classes (wsN ca q0 q1 tx u v) H) : va_at D classes (Th.r ((l, D, ca, rN q0 q1 u v, st, tx, bt) : Th) 50, cellE ((l, D, ca, rN q0 q1 u v, st, tx, bt) : Th) σ0 50) H := by
  exact hP 47 _ rfl
theorem cw_51 {l : Launch} {D : va_G} {ca : Nat → ClassId} {q0 q1 : Nat} {u v st tx bt : Nat → Nat} {H : Heap} (hP : va_P D classes (wsN ca q0 q1 tx u v) H) : va_at D classes (Th.r ((l, D, ca, rN q0 q1 u v, st, tx, bt) : Th) 51, cellE ((l, D, ca, rN q0 q1 u v, st, tx, bt) : Th) σ0 51) H := by
  exact hP 49 _ rfl
theorem cw_52 {l : Launch} {D : va_G} {ca : Nat → ClassId} {q0 q1 : Nat} {u v st tx bt : Nat → Nat} {H : Heap} (hP : va_P D classes (wsN ca q0 q1 tx u v) H) : va_at D classes (Th.r ((l, D, ca, rN q0 q1 u v, st, tx, bt) : Th) 52, cellE ((l, D, ca, rN q0 q1 u v, st, tx, bt) : Th) σ0 52) H := by
  exact hP 51 _ rfl
theorem cw_53 {l : Launch} {D : va_G} {ca : Nat → ClassId} {q0 q1 : Nat} {u v st tx bt : Nat → Nat} {H : Heap} (hP : va_P D classes (wsN ca q0 q1 tx u v) H) : va_at D classes (Th.r ((l, D, ca, rN q0 q1 u v, st, tx, bt) : Th) 53, cellE ((l, D, ca, rN q0 q1 u v, st, tx, bt) : Th) σ0 53) H := by
  exact hP 53 _ rfl
theorem cw_54 {l : Launch} {D : va_G} {ca : Nat → ClassId} {q0 q1 : Nat} {u v st tx bt : Nat → Nat} {H : Heap} (hP : va_P D classes (wsN ca q0 q1 tx u v) H) : va_at D classes (Th.r ((l, D, ca, rN q0 q1 u v, st, tx, bt) : Th) 54, cellE ((l, D, ca, rN q0 q1 u v, st, tx, bt) : Th) σ0 54) H := by
  exact hP 54 _ rfl
theorem cw_55 {l : Launch} {D : va_G} {ca : Nat → ClassId} {q0 q1 : Nat} {u v st tx bt : Nat → Nat} {H : Heap} (hP : va_P D classes (wsN ca q0 q1 tx u v) H) : va_at D classes (Th.r ((l, D, ca, rN q0 q1 u v, st, tx, bt) : Th) 55, cellE ((l, D, ca, rN q0 q1 u v, st, tx, bt) : Th) σ0 55) H := by
  exact hP 55 _ rfl
theorem cw_56 {l : Launch} {D : va_G} {ca : Nat → ClassId} {q0 q1 : Nat} {u v st tx bt : Nat → Nat} {H : Heap} (hP : va_P D classes (wsN ca q0 q1 tx u v) H) : va_at D classes (Th.r ((l, D, ca, rN q0 q1 u v, st, tx, bt) : Th) 56, cellE ((l, D, ca, rN q0 q1 u v, st, tx, bt) : Th) σ0 56) H := by
  exact hP 56 _ rfl
theorem cw_57 {l : Launch} {D : va_G} {ca : Nat → ClassId} {q0 q1 : Nat} {u v st tx bt : Nat → Nat} {H : Heap} (hP : va_P D classes (wsN ca q0 q1 tx u v) H) : va_at D classes (Th.r ((l, D, ca, rN q0 q1 u v, st, tx, bt) : Th) 57, cellE ((l, D, ca, rN q0 q1 u v, st, tx, bt) : Th) σ0 57) H := by
  exact hP 57 _ rfl
theorem cw_58 {l : Launch} {D : va_G} {ca : Nat → ClassId} {q0 q1 : Nat} {u v st tx bt : Nat → Nat} {H : Heap} (hP : va_P D classes (wsN ca q0 q1 tx u v) H) : va_at D classes (Th.r ((l, D, ca, rN q0 q1 u v, st, tx, bt) : Th) 58, cellE ((l, D, ca, rN q0 q1 u v, st, tx, bt) : Th) σ0 58) H := by
  exact hP 58 _ rfl
theorem cw_59 {l : Launch} {D : va_G} {ca : Nat → ClassId} {q0 q1 : Nat} {u v st tx bt : Nat → Nat} {H : Heap} (hP : va_P D classes (wsN ca q0 q1 tx u v) H) : va_at D classes (Th.r ((l, D, ca, rN q0 q1 u v, st, tx, bt) : Th) 59, cellE ((l, D, ca, rN q0 q1 u v, st, tx, bt) : Th) σ0 59) H := by
  exact hP 59 _ rfl
theorem cw_60 {l : Launch} {D : va_G} {ca : Nat → ClassId} {q0 q1 : Nat} {u v st tx bt : Nat → Nat} {H : Heap} (hP : va_P D classes (wsN ca q0 q1 tx u v) H) : va_at D classes (Th.r ((l, D, ca, rN q0 q1 u v, st, tx, bt) : Th) 60, cellE ((l, D, ca, rN q0 q1 u v, st, tx, bt) : Th) σ0 60) H := by
  exact hP 60 _ rfl
theorem cw_61 {l : Launch} {D : va_G} {ca : Nat → ClassId} {q0 q1 : Nat} {u v st tx bt : Nat → Nat} {H : Heap} (hP : va_P D classes (wsN ca q0 q1 tx u v) H) : va_at D classes (Th.r ((l, D, ca, rN q0 q1 u v, st, tx, bt) : Th) 61, cellE ((l, D, ca, rN q0 q1 u v, st, tx, bt) : Th) σ0 61) H := by
  exact hP 61 _ rfl
theorem cw_62 {l : Launch} {D : va_G} {ca : Nat → ClassId} {q0 q1 : Nat} {u v st tx bt : Nat → Nat} {H : Heap} (hP : va_P D classes (wsN ca q0 q1 tx u v) H) : va_at D classes (Th.r ((l, D, ca, rN q0 q1 u v, st, tx, bt) : Th) 62, cellE ((l, D, ca, rN q0 q1 u v, st, tx, bt) : Th) σ0 62) H := by
  exact hP 62 _ rfl
theorem cw_63 {l : Launch} {D : va_G} {ca : Nat → ClassId} {q0 q1 : Nat} {u v st tx bt : Nat → Nat} {H : Heap} (hP : va_P D classes (wsN ca q0 q1 tx u v) H) : va_at D classes (Th.r ((l, D, ca, rN q0 q1 u v, st, tx, bt) : Th) 63, cellE ((l, D, ca, rN q0 q1 u v, st, tx, bt) : Th) σ0 63) H := by
  exact hP 63 _ rfl
theorem cw_64 {l : Launch} {D : va_G} {ca : Nat → ClassId} {q0 q1 : Nat} {u v st tx bt : Nat → Nat} {H : Heap} (hP : va_P D classes (wsN ca q0 q1 tx u v) H) : va_at D classes (Th.r ((l, D, ca, rN q0 q1 u v, st, tx, bt) : Th) 64, cellE ((l, D, ca, rN q0 q1 u v, st, tx, bt) : Th) σ0 64) H := by
  exact hP 64 _ rfl
theorem cw_65 {l : Launch} {D : va_G} {ca : Nat → ClassId} {q0 q1 : Nat} {u v st tx bt : Nat → Nat} {H : Heap} (hP : va_P D classes (wsN ca q0 q1 tx u v) H) : va_at D classes (Th.r ((l, D, ca, rN q0 q1 u v, st, tx, bt) : Th) 65, cellE ((l, D, ca, rN q0 q1 u v, st, tx, bt) : Th) σ0 65) H := by
  exact hP 65 _ rfl
theorem cw_66 {l : Launch} {D : va_G} {ca : Nat → ClassId} {q0 q1 : Nat} {u v st tx bt : Nat → Nat} {H : Heap} (hP : va_P D classes (wsN ca q0 q1 tx u v) H) : va_at D classes (Th.r ((l, D, ca, rN q0 q1 u v, st, tx, bt) : Th) 66, cellE ((l, D, ca, rN q0 q1 u v, st, tx, bt) : Th) σ0 66) H := by
  exact hP 66 _ rfl
theorem cw_67 {l : Launch} {D : va_G} {ca : Nat → ClassId} {q0 q1 : Nat} {u v st tx bt : Nat → Nat} {H : Heap} (hP : va_P D classes (wsN ca q0 q1 tx u v) H) : va_at D classes (Th.r ((l, D, ca, rN q0 q1 u v, st, tx, bt) : Th) 67, cellE ((l, D, ca, rN q0 q1 u v, st, tx, bt) : Th) σ0 67) H := by
  exact hP 67 _ rfl
theorem cw_68 {l : Launch} {D : va_G} {ca : Nat → ClassId} {q0 q1 : Nat} {u v st tx bt : Nat → Nat} {H : Heap} (hP : va_P D classes (wsN ca q0 q1 tx u v) H) : va_at D classes (Th.r ((l, D, ca, rN q0 q1 u v, st, tx, bt) : Th) 68, cellE ((l, D, ca, rN q0 q1 u v, st, tx, bt) : Th) σ0 68) H := by
  exact hP 68 _ rfl
theorem cw_69 {l : Launch} {D : va_G} {ca : Nat → ClassId} {q0 q1 : Nat} {u v st tx bt : Nat → Nat} {H : Heap} (hP : va_P D classes (wsN ca q0 q1 tx u v) H) : va_at D classes (Th.r ((l, D, ca, rN q0 q1 u v, st, tx, bt) : Th) 69, cellE ((l, D, ca, rN q0 q1 u v, st, tx, bt) : Th) σ0 69) H := by
  exact hP 69 _ rfl
theorem cw_70 {l : Launch} {D : va_G} {ca : Nat → ClassId} {q0 q1 : Nat} {u v st tx bt : Nat → Nat} {H : Heap} (hP : va_P D classes (wsN ca q0 q1 tx u v) H) : va_at D classes (Th.r ((l, D, ca, rN q0 q1 u v, st, tx, bt) : Th) 70, cellE ((l, D, ca, rN q0 q1 u v, st, tx, bt) : Th) σ0 70) H := by
  exact hP 70 _ rfl
theorem cw_71 {l : Launch} {D : va_G} {ca : Nat → ClassId} {q0 q1 : Nat} {u v st tx bt : Nat → Nat} {H : Heap} (hP : va_P D classes (wsN ca q0 q1 tx u v) H) : va_at D classes (Th.r ((l, D, ca, rN q0 q1 u v, st, tx, bt) : Th) 71, cellE ((l, D, ca, rN q0 q1 u v, st, tx, bt) : Th) σ0 71) H := by
  exact hP 71 _ rfl
theorem cw_72 {l : Launch} {D : va_G} {ca : Nat → ClassId} {q0 q1 : Nat} {u v st tx bt : Nat → Nat} {H : Heap} (hP : va_P D classes (wsN ca q0 q1 tx u v) H) : va_at D classes (Th.r ((l, D, ca, rN q0 q1 u v, st, tx, bt) : Th) 72, cellE ((l, D, ca, rN q0 q1 u v, st, tx, bt) : Th) σ0 72) H := by
  exact hP 72 _ rfl
theorem cw_73 {l : Launch} {D : va_G} {ca : Nat → ClassId} {q0 q1 : Nat} {u v st tx bt : Nat → Nat} {H : Heap} (hP : va_P D classes (wsN ca q0 q1 tx u v) H) : va_at D classes (Th.r ((l, D, ca, rN q0 q1 u v, st, tx, bt) : Th) 73, cellE ((l, D, ca, rN q0 q1 u v, st, tx, bt) : Th) σ0 73) H := by
  exact hP 73 _ rfl
theorem cw_74 {l : Launch} {D : va_G} {ca : Nat → ClassId} {q0 q1 : Nat} {u v st tx bt : Nat → Nat} {H : Heap} (hP : va_P D classes (wsN ca q0 q1 tx u v) H) : va_at D classes (Th.r ((l, D, ca, rN q0 q1 u v, st, tx, bt) : Th) 74, cellE ((l, D, ca, rN q0 q1 u v, st, tx, bt) : Th) σ0 74) H := by
  exact hP 74 _ rfl
theorem cw_75 {l : Launch} {D : va_G} {ca : Nat → ClassId} {q0 q1 : Nat} {u v st tx bt : Nat → Nat} {H : Heap} (hP : va_P D classes (wsN ca q0 q1 tx u v) H) : va_at D classes (Th.r ((l, D, ca, rN q0 q1 u v, st, tx, bt) : Th) 75, cellE ((l, D, ca, rN q0 q1 u v, st, tx, bt) : Th) σ0 75) H := by
  exact hP 75 _ rfl
theorem cw_76 {l : Launch} {D : va_G} {ca : Nat → ClassId} {q0 q1 : Nat} {u v st tx bt : Nat → Nat} {H : Heap} (hP : va_P D classes (wsN ca q0 q1 tx u v) H) : va_at D classes (Th.r ((l, D, ca, rN q0 q1 u v, st, tx, bt) : Th) 76, cellE ((l, D, ca, rN q0 q1 u v, st, tx, bt) : Th) σ0 76) H := by
  exact hP 76 _ rfl
theorem cw_77 {l : Launch} {D : va_G} {ca : Nat → ClassId} {q0 q1 : Nat} {u v st tx bt : Nat → Nat} {H : Heap} (hP : va_P D classes (wsN ca q0 q1 tx u v) H) : va_at D classes (Th.r ((l, D, ca, rN q0 q1 u v, st, tx, bt) : Th) 77, cellE ((l, D, ca, rN q0 q1 u v, st, tx, bt) : Th) σ0 77) H := by
  exact hP 77 _ rfl
theorem cellsN {l : Launch} {D : va_G} {ca : Nat → ClassId} {q0 q1 : Nat} {u v st tx bt : Nat → Nat} {H : Heap} (hP : va_P D classes (wsN ca q0 q1 tx u v) H) : va_P D classes (cells ((l, D, ca, rN q0 q1 u v, st, tx, bt) : Th) σ0) H := by
  intro k q hk
  obtain ⟨hk8, rfl⟩ := cells_inv hk
  match k, hk8 with
  | 0, _ => exact cw_0 hP
  | 1, _ => exact cw_1 hP
  | 2, _ => exact cw_2 hP
  | 3, _ => exact cw_3 hP
  | 4, _ => exact cw_4 hP
  | 5, _ => exact cw_5 hP
  | 6, _ => exact cw_6 hP
  | 7, _ => exact cw_7 hP
  | 8, _ => exact cw_8 hP
  | 9, _ => exact cw_9 hP
  | 10, _ => exact cw_10 hP
  | 11, _ => exact cw_11 hP
  | 12, _ => exact cw_12 hP
  | 13, _ => exact cw_13 hP
  | 14, _ => exact cw_14 hP
  | 15, _ => exact cw_15 hP
  | 16, _ => exact cw_16 hP
  | 17, _ => exact cw_17 hP
  | 18, _ => exact cw_18 hP
  | 19, _ => exact cw_19 hP
  | 20, _ => exact cw_20 hP
  | 21, _ => exact cw_21 hP
  | 22, _ => exact cw_22 hP
  | 23, _ => exact cw_23 hP
  | 24, _ => exact cw_24 hP
  | 25, _ => exact cw_25 hP
  | 26, _ => exact cw_26 hP
  | 27, _ => exact cw_27 hP
  | 28, _ => exact cw_28 hP
  | 29, _ => exact cw_29 hP
  | 30, _ => exact cw_30 hP
  | 31, _ => exact cw_31 hP
  | 32, _ => exact cw_32 hP
  | 33, _ => exact cw_33 hP
  | 34, _ => exact cw_34 hP
  | 35, _ => exact cw_35 hP
  | 36, _ => exact cw_36 hP
  | 37, _ => exact cw_37 hP
  | 38, _ => exact cw_38 hP
  | 39, _ => exact cw_39 hP
  | 40, _ => exact cw_40 hP
  | 41, _ => exact cw_41 hP
  | 42, _ => exact cw_42 hP
  | 43, _ => exact cw_43 hP
  | 44, _ => exact cw_44 hP
  | 45, _ => exact cw_45 hP
  | 46, _ => exact cw_46 hP
  | 47, _ => exact cw_47 hP
  | 48, _ => exact cw_48 hP
  | 49, _ => exact cw_49 hP
  | 50, _ => exact cw_50 hP
  | 51, _ => exact cw_51 hP
  | 52, _ => exact cw_52 hP
  | 53, _ => exact cw_53 hP
  | 54, _ => exact cw_54 hP
  | 55, _ => exact cw_55 hP
  | 56, _ => exact cw_56 hP
  | 57, _ => exact cw_57 hP
  | 58, _ => exact cw_58 hP
  | 59, _ => exact cw_59 hP
  | 60, _ => exact cw_60 hP
  | 61, _ => exact cw_61 hP
  | 62, _ => exact cw_62 hP
  | 63, _ => exact cw_63 hP
  | 64, _ => exact cw_64 hP
  | 65, _ => exact cw_65 hP
  | 66, _ => exact cw_66 hP
  | 67, _ => exact cw_67 hP
  | 68, _ => exact cw_68 hP
  | 69, _ => exact cw_69 hP
  | 70, _ => exact cw_70 hP
  | 71, _ => exact cw_71 hP
  | 72, _ => exact cw_72 hP
  | 73, _ => exact cw_73 hP
  | 74, _ => exact cw_74 hP
  | 75, _ => exact cw_75 hP
  | 76, _ => exact cw_76 hP
  | 77, _ => exact cw_77 hP
  | k + 78, h => exact absurd h (by omega)
