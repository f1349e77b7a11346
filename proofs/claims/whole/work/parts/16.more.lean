/-! switches, texts, copying, more numbers -/
theorem i_shl1z {k : Int} (hk : 0 ≤ k ∧ k < 31) : I 1 <<< (I k &&& 31) = I (2 ^ k.toNat) := by
  obtain ⟨n, rfl⟩ := Int.eq_ofNat_of_zero_le hk.1
  exact i_shl1 n (by omega)
theorem i_bv (a : Int) : (I a).toBitVec.toNat = (a % 4294967296).toNat := by
  show (BitVec.ofInt 32 a).toNat = _
  rw [BitVec.toNat_ofInt]; rfl
theorem i_ofbv {x : Int32} {n : Nat} (h : x.toBitVec.toNat = n) : x = I n := by
  apply Int32.toBitVec.inj
  apply BitVec.eq_of_toNat_eq
  rw [h, i_bv]
  have := x.toBitVec.isLt
  omega
theorem i_ush16 (a : Int) : ((I a).toUInt32 >>> ((I 16).toUInt32 &&& Int32.toUInt32 31)).toInt32 = I (a % 4294967296 / 65536) := by
  have h := pk_ushr (I a) (I 16) 16 (by decide)
  rw [i_bv] at h
  rw [i_ofbv h]
  congr 1
  omega
theorem i_c {a : Int} (h : 0 ≤ a ∧ a < 65536) : ((I a).toUInt32 % 65536).toInt32 = I a := by
  rw [pk_char, i_bv]
  rw [show nI ((a % 4294967296).toNat % 65536) = I (((a % 4294967296).toNat % 65536 : Nat) : Int) from rfl]
  congr 1
  omega
theorem i_b {a : Int} (h : 0 ≤ a ∧ a < 256) : ((I a).toInt8.toInt32) = I (if a < 128 then a else a - 256) := by
  obtain ⟨n, rfl⟩ := Int.eq_ofNat_of_zero_le h.1
  have k : ∀ n : Nat, n < 256 → ((I n).toInt8.toInt32) = I (if (n : Int) < 128 then (n : Int) else n - 256) := by decide +kernel
  exact k n (by omega)
def tbl (t : Nat) (x : Int) : Int := ([[121, 111, 119, 105], [107, 118, 102, 100]].getD t []).getD x.toNat 0
section MORE
variable {Θ : Th} {Γ : Gm} {Y Y' : Mt} {pc : Nat} {L L' : List (Nat × Value)} {st rest : List Value} {σ : Mem} {P : Int → Prop}
theorem R_tsIn (hB : Base Θ Γ Y) {dflt lo hi off a : Int} {offs : Array Int} {len : Nat} (c : Int) (t : Nat) (ha : rng a) (h : a = c) (hd : decode Y.2.1 pc = .ok (.tableswitch dflt lo hi offs, len)) (h1 : ¬ c < lo) (h2 : ¬ hi < c) (ho : offs[(c - lo).toNat]? = some off) (ht : (pc : Int) + off = t) (k : Run Θ Γ t L st σ) : Run Θ Γ pc L (.int (I a) :: st) σ := by
  intro hc H ls locs hL hP hS
  have e : (I a).toInt = c := (I_toInt ha).trans h
  exact lv_tableIn hB.1.1 hB.1.2.1 hd (by rw [e]; exact h1) (by rw [e]; exact h2) (by rw [e]; exact ho) ht (k hc H ls locs hL hP hS)
theorem R_tsOut (hB : Base Θ Γ Y) {dflt lo hi a : Int} {offs : Array Int} {len : Nat} (t : Nat) (ha : rng a) (hd : decode Y.2.1 pc = .ok (.tableswitch dflt lo hi offs, len)) (h : a < lo ∨ hi < a) (ht : (pc : Int) + dflt = t) (k : Run Θ Γ t L st σ) : Run Θ Γ pc L (.int (I a) :: st) σ := by
  intro hc H ls locs hL hP hS
  have e : (I a).toInt = a := I_toInt ha
  exact lv_tableOut hB.1.1 hB.1.2.1 hd (by rw [e]; exact h) ht (k hc H ls locs hL hP hS)
theorem P_cT1 (hB : Base Θ Γ Y) {x n t : Nat} {av : List Value} (hS : Spc Θ Y' 1 (.ref (Th.tx Θ t) :: av) σ (Pu σ P)) (hm : MV Y.1.cls x Y' n) (ht : t < 2) (hcl : Y'.1.cls = "java/lang/String") (hR : CallRm Y Y') (hd : decode Y.2.1 pc = .ok (.invokevirtual x, 3)) (hn : av.length = n) (hst : st = av.reverse ++ .ref (Th.tx Θ t) :: rest) (hw : (rest.map fun v => v.category).sum ≤ 8) (kk : ∀ z, P z → Run Θ Γ (pc + 3) L (.int (I z) :: rest) σ) : Run Θ Γ pc L st σ := by
  intro hcn H ls locs hL hP hSS
  have hg : GoodIn TT (codeW Y' :: TT) := fun w h => by
    rcases List.mem_cons.mp h with rfl | h
    · exact TT_in _ hm.2.2.2.1
    · exact TT_in w h
  have hfr := hB.2.2.1
  have hlo := hB.2.2.2.1
  have ht' := hB.1.2.2.2.2
  have hrec := vk_recv hB.2.1.2.2.2.2.1 ht hSS
  rw [← hcl] at hrec
  exact R_aft1 (Qg := Pu σ P) hL hSS (va_runV (Ts := TT) (C := Y'.1.cls) (rest := rest) hB.1 hS ⟨callB_of n ht' hg rfl rfl rfl (ht' _ hm.2.2.1) (ht' _ hm.1) hm.2.2.2.2 ⟨by rw [hfr]; exact hR.1, by rw [hlo]; exact hR.2⟩, ht' _ hm.2.1.1, ht' _ hm.2.1.2⟩ ⟨PcW_blind, hrec, fun U hU hW => ⟨rfl, hB.2.1.step hW (by rw [hU]; exact hSS), hcn, by rw [hU]; exact hP⟩⟩ rfl hn (hL.1.trans hB.1.2.2.1) hst (lv_room hw) hd hB.2.2.2.2.1) (fun z σ' h => by obtain ⟨h1, h2⟩ := h; subst h1; exact kk z h2)
theorem R_gtv (hB : Base Θ Γ Y) {x t : Nat} (ht : t < 2) (hl : Cond.fieldLink Y.1.cls x "java/lang/String" "value" "[B" ∈ TT) (hd : decode Y.2.1 pc = .ok (.getfield x, 3)) (kk : Run Θ Γ (pc + 3) L (.ref (Th.by Θ t) :: st) σ) : Run Θ Γ pc L (.ref (Th.tx Θ t) :: st) σ :=
  fun hcn H ls locs hL hP hS => vk_getf hB.1.1 hB.1.2.1 (hB.2.1.2.2.2.2.1.1 t ht).2.2.1 hS hB.1.2.2.2.1 (hB.1.2.2.2.2 _ hl) (fun _ h => h) hd (kk hcn H ls locs hL hP hS)
theorem R_gtc (hB : Base Θ Γ Y) {x t : Nat} (ht : t < 2) (hl : Cond.fieldLink Y.1.cls x "java/lang/String" "coder" "B" ∈ TT) (hd : decode Y.2.1 pc = .ok (.getfield x, 3)) (kk : Run Θ Γ (pc + 3) L (.int (I 0) :: st) σ) : Run Θ Γ pc L (.ref (Th.tx Θ t) :: st) σ :=
  fun hcn H ls locs hL hP hS => vk_getf hB.1.1 hB.1.2.1 (hB.2.1.2.2.2.2.1.1 t ht).2.1 hS hB.1.2.2.2.1 (hB.1.2.2.2.2 _ hl) (fun _ h => h) hd (kk hcn H ls locs hL hP hS)
theorem R_gcs (hB : Base Θ Γ Y) {x : Nat} (hl : Cond.fieldLink Y.1.cls x "java/lang/String" "COMPACT_STRINGS" "Z" ∈ TT) (hd : decode Y.2.1 pc = .ok (.getstatic x, 3)) (kk : Run Θ Γ (pc + 3) L (.int (I 1) :: st) σ) : Run Θ Γ pc L st σ :=
  fun hcn H ls locs hL hP hS => va_gets hB.1.1 hB.1.2.1 hB.2.1.2.2.2.1 hS hB.1.2.2.2.1 (hB.1.2.2.2.2 _ hl) (fun _ h => h) hd (kk hcn H ls locs hL hP hS)
theorem R_tblen (hB : Base Θ Γ Y) {t : Nat} (ht : t < 2) (hd : decode Y.2.1 pc = .ok (.arraylength, 1)) (kk : Run Θ Γ (pc + 1) L (.int (I 4) :: st) σ) : Run Θ Γ pc L (.ref (Th.by Θ t) :: st) σ :=
  fun hcn H ls locs hL hP hS => va_tlen hB.1.1 hB.1.2.1 (hB.2.1.2.2.2.2.1.1 t ht).2.2.2 hS (v := I 4) (by match t, ht with
    | 0, _ => rfl
    | 1, _ => rfl) hd (kk hcn H ls locs hL hP hS)
theorem R_tbld (hB : Base Θ Γ Y) {t : Nat} {x : Int} (ht : t < 2) (hx : 0 ≤ x ∧ x < 4) (hd : decode Y.2.1 pc = .ok (.baload, 1)) (kk : Run Θ Γ (pc + 1) L (.int (I (tbl t x)) :: st) σ) : Run Θ Γ pc L (.int (I x) :: .ref (Th.by Θ t) :: st) σ := by
  intro hcn H ls locs hL hP hS
  have hn : [4, 4].getD t 0 = 4 := by
    match t, ht with
    | 0, _ => rfl
    | 1, _ => rfl
  have e : (((I x).toNatClampNeg : Nat) : Int) = x := I_cl (by omega)
  refine va_tb hB.1.1 hB.1.2.1 (hB.2.1.2.2.2.2.1.1 t ht).2.2.2 hS (I_vin (by rw [hn]; decide) (by rw [hn]; exact hx)) (v := .int (I (tbl t x))) ?_ hd (kk hcn H ls locs hL hP hS)
  have e2 : (I x).toNatClampNeg = x.toNat := by omega
  simp only [e2, tbl]
  have hx4 : x.toNat < 4 := by omega
  match t, ht, x.toNat, hx4 with
  | 0, _, 0, _ => rfl
  | 0, _, 1, _ => rfl
  | 0, _, 2, _ => rfl
  | 0, _, 3, _ => rfl
  | 1, _, 0, _ => rfl
  | 1, _, 1, _ => rfl
  | 1, _, 2, _ => rfl
  | 1, _, 3, _ => rfl
theorem P_max (hB : Base Θ Γ Y) {x : Nat} {a b : Int} (ha : rng a) (hb : rng b) (hm : MS Y.1.cls x M_J9_max_7cf53 2) (hR : 1 ≤ Y.2.2.2.2.1 ∧ 21 ≤ Y.2.2.2.2.2) (hd : decode Y.2.1 pc = .ok (.invokestatic x, 3)) (hw : (rest.map fun v => v.category).sum ≤ 8) (kk : Run Θ Γ (pc + 3) L (.int (I (max a b)) :: rest) σ) : Run Θ Γ pc L (.int (I b) :: .int (I a) :: rest) σ := by
  intro hcn H ls locs hL hP hS
  have hfr := hB.2.2.1
  have hlo := hB.2.2.2.1
  have ht := hB.1.2.2.2.2
  refine va_mmax hB.1.1 hB.1.2.1 hL.1.symm hB.1.2.2.2.1 (ht _ hm.1) (ht _ hm.2.1) (ht _ hm.2.2.1) (ht _ hm.2.2.2.1) (by omega) (by omega) hB.2.2.2.2.1.1 hB.2.2.2.2.1.2 hd ?_
  have e : (if I a < I b then I b else I a) = I (max a b) := by
    simp only [I_lt ha hb]
    split
    · congr 1; omega
    · congr 1; omega
  rw [e]
  exact kk hcn H ls locs hL hP hS
theorem P_min (hB : Base Θ Γ Y) {x : Nat} {a b : Int} (ha : rng a) (hb : rng b) (hm : MS Y.1.cls x M_J9_min_7cf53 2) (hR : 1 ≤ Y.2.2.2.2.1 ∧ 21 ≤ Y.2.2.2.2.2) (hd : decode Y.2.1 pc = .ok (.invokestatic x, 3)) (hw : (rest.map fun v => v.category).sum ≤ 8) (kk : Run Θ Γ (pc + 3) L (.int (I (min a b)) :: rest) σ) : Run Θ Γ pc L (.int (I b) :: .int (I a) :: rest) σ := by
  intro hcn H ls locs hL hP hS
  have hfr := hB.2.2.1
  have hlo := hB.2.2.2.1
  have ht := hB.1.2.2.2.2
  refine va_mmin hB.1.1 hB.1.2.1 hL.1.symm hB.1.2.2.2.1 (ht _ hm.1) (ht _ hm.2.1) (ht _ hm.2.2.1) (ht _ hm.2.2.2.1) (by omega) (by omega) hB.2.2.2.2.1.1 hB.2.2.2.2.1.2 hd ?_
  have e : (if I b < I a then I b else I a) = I (min a b) := by
    simp only [I_lt hb ha]
    split
    · congr 1; omega
    · congr 1; omega
  rw [e]
  exact kk hcn H ls locs hL hP hS
theorem P_abs (hB : Base Θ Γ Y) {x : Nat} {a : Int} (ha : rng a) (hm : MS Y.1.cls x M_J9_abs_0f7a4 1) (hR : 1 ≤ Y.2.2.2.2.1 ∧ 21 ≤ Y.2.2.2.2.2) (hd : decode Y.2.1 pc = .ok (.invokestatic x, 3)) (hw : (rest.map fun v => v.category).sum ≤ 8) (kk : Run Θ Γ (pc + 3) L (.int (I (if 0 ≤ a then a else -a)) :: rest) σ) : Run Θ Γ pc L (.int (I a) :: rest) σ := by
  intro hcn H ls locs hL hP hS
  have hfr := hB.2.2.1
  have hlo := hB.2.2.2.1
  have ht := hB.1.2.2.2.2
  refine va_mabs hB.1.1 hB.1.2.1 hL.1.symm hB.1.2.2.2.1 (ht _ hm.1) (ht _ hm.2.1) (ht _ hm.2.2.1) (ht _ hm.2.2.2.1) (by omega) (by omega) hB.2.2.2.2.1.1 hB.2.2.2.2.1.2 hd ?_
  have e : (if 0 ≤ I a then I a else 0 - I a) = I (if 0 ≤ a then a else -a) := by
    have : (0 ≤ I a) ↔ 0 ≤ a := I_le (a := 0) (b := a) (by decide) ha
    simp only [this]
    split
    · rfl
    · rw [← I_0, I_sub]; congr 1; omega
  rw [e]
  exact kk hcn H ls locs hL hP hS
end MORE
