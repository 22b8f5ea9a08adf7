/-! ===== MORE STEPS for the printed walks ===== -/
theorem r32 {z : Int} (h1 : -2147483648 ≤ z) (h2 : z < 2147483648) : R32 z := ⟨h1, h2⟩
theorem r64 {z : Int} (h1 : -9223372036854775808 ≤ z) (h2 : z < 9223372036854775808) : R64 z := ⟨h1, h2⟩
theorem i32_div {x y : Int} (hx : 0 ≤ x) (hx2 : x < 2147483648) (hy : 0 < y) (hy2 : y < 2147483648) : i32 x / i32 y = i32 (x / y) := by
  have e : (i32 x / i32 y).toInt = x / y := by
    rw [Int32.toInt_div_of_ne_right _ _ (fun h => ?_), i32_to ⟨by omega, hx2⟩, i32_to ⟨by omega, hy2⟩, Int.tdiv_eq_ediv_of_nonneg hx]
    have h2 : i32 y = i32 (-1) := h
    rw [i32_eq ⟨by omega, hy2⟩ ⟨by omega, by omega⟩] at h2
    omega
  rw [← i32_of (i32 x / i32 y), e]
theorem i32_rem {x y : Int} (hx : 0 ≤ x) (hx2 : x < 2147483648) (hy : 0 < y) (hy2 : y < 2147483648) : i32 x - i32 x / i32 y * i32 y = i32 (x % y) := by
  rw [i32_div hx hx2 hy hy2, i32_mul, i32_sub, Int.emod_def, Int.mul_comm]
theorem i64_div {x y : Int} (hx : 0 ≤ x) (hx2 : x < 9223372036854775808) (hy : 0 < y) (hy2 : y < 9223372036854775808) : i64 x / i64 y = i64 (x / y) := by
  have e : (i64 x / i64 y).toInt = x / y := by
    rw [Int64.toInt_div_of_ne_right _ _ (fun h => ?_), i64_to ⟨by omega, hx2⟩, i64_to ⟨by omega, hy2⟩, Int.tdiv_eq_ediv_of_nonneg hx]
    have h2 : i64 y = i64 (-1) := h
    have h3 := congrArg Int64.toInt h2
    rw [i64_to ⟨by omega, hy2⟩, i64_to ⟨by omega, by omega⟩] at h3
    omega
  rw [← Int64.ofInt_toInt (i64 x / i64 y), e]
  rfl
theorem i64_rem {x y : Int} (hx : 0 ≤ x) (hx2 : x < 9223372036854775808) (hy : 0 < y) (hy2 : y < 9223372036854775808) : i64 x - i64 x / i64 y * i64 y = i64 (x % y) := by
  rw [i64_div hx hx2 hy hy2, i64_mul, i64_sub, Int.emod_def, Int.mul_comm]
theorem i32_and {x : Int32} {y : Int} (hy : 0 ≤ y) (hy2 : y < 2147483648) : ∃ z, x &&& i32 y = i32 z ∧ 0 ≤ z ∧ z ≤ y := by
  refine ⟨(x &&& i32 y).toInt, (i32_of _).symm, ?_⟩
  have hb : (i32 y).toBitVec.toNat = y.toNat := by
    have h1 := i32_to ⟨by omega, hy2⟩
    have h2 : (i32 y).toBitVec.toInt = y := h1
    have h3 := BitVec.toInt_eq_toNat_cond (i32 y).toBitVec
    have := (i32 y).toBitVec.isLt
    split at h3 <;> omega
  have h1 : (x &&& i32 y).toInt = (x.toBitVec &&& (i32 y).toBitVec).toInt := by
    show (x &&& i32 y).toBitVec.toInt = _
    rw [Int32.toBitVec_and]
  have h2 : (x.toBitVec &&& (i32 y).toBitVec).toNat ≤ y.toNat := by
    rw [BitVec.toNat_and, hb]
    exact Nat.and_le_right
  rw [h1, BitVec.toInt_eq_toNat_of_lt (by omega)]
  omega
theorem i64_and {x : Int64} {y : Int} (hy : 0 ≤ y) (hy2 : y < 9223372036854775808) : ∃ z, x &&& i64 y = i64 z ∧ 0 ≤ z ∧ z ≤ y := by
  refine ⟨(x &&& i64 y).toInt, (Int64.ofInt_toInt _).symm, ?_⟩
  have hb : (i64 y).toBitVec.toNat = y.toNat := by
    have h1 := i64_to (z := y) ⟨by omega, hy2⟩
    have h2 : (i64 y).toBitVec.toInt = y := h1
    have h3 := BitVec.toInt_eq_toNat_cond (i64 y).toBitVec
    have := (i64 y).toBitVec.isLt
    split at h3 <;> omega
  have h1 : (x &&& i64 y).toInt = (x.toBitVec &&& (i64 y).toBitVec).toInt := by
    show (x &&& i64 y).toBitVec.toInt = _
    rw [Int64.toBitVec_and]
  have h2 : (x.toBitVec &&& (i64 y).toBitVec).toNat ≤ y.toNat := by
    rw [BitVec.toNat_and, hb]
    exact Nat.and_le_right
  rw [h1, BitVec.toInt_eq_toNat_of_lt (by omega)]
  omega
theorem i32_ex (v : Int32) : ∃ z, R32 z ∧ v = i32 z := ⟨v.toInt, ⟨Int32.le_toInt v, Int32.toInt_lt v⟩, (i32_of v).symm⟩
theorem i64_ex (v : Int64) : ∃ z, R64 z ∧ v = i64 z := ⟨v.toInt, ⟨Int64.le_toInt v, Int64.toInt_lt v⟩, (Int64.ofInt_toInt v).symm⟩
theorem i32_64 {x : Int} (h : R32 x) : (i32 x).toInt64 = i64 x := Int32.toInt64_ofInt h.1 (Int.le_of_lt_add_one h.2)
theorem i64_32 (x : Int) : (i64 x).toInt32 = i32 x := Int64.toInt32_ofInt
section MS5
variable {w : wX} {D : Nat} {me : am_M} {Q : ag_Re af_T → Prop} {pc nc ns N : Nat} {lv : List (Nat × Value)} {st : List Value} {t : af_T} {m : mR} {c : Nat → Option am_C} {l : List (Nat × Int)} {a : List (Nat × (Int → Int))} {i : am_I}
theorem T_gf1 (pc' : Nat) (v : Value) {idx k k4 : Nat} (hi : me.2.2.2.2.2 pc = some (.getfield idx, k4, 12, k, 0)) (hk : decide (k < 179) = true) (hv : mfv (mO m l a) k = v) (hp : pc + 3 = pc') (h : TT w D me (pc', lv, v :: st, (mhp (mO m l a) c, N), nc, ns) Q) : TT w D me (pc, lv, .ref 189 :: st, (mhp (mO m l a) c, N), nc, ns) Q := by
  subst hp
  exact Tm_getf (r := 0) hi (of_decide_eq_true hk) hv h
theorem T_if (pt pf : Nat) {cd : ClassFile.Cond} {off x : Int} {len p q r : Nat} (hi : me.2.2.2.2.2 pc = some (.ifCond cd off, len, p, q, r)) (ht : am_to pc off = some pt) (hp : pc + 3 = pf) (hx : R32 x) (h1 : cz cd x 0 → TT w D me (pt, lv, st, t, nc, ns) Q) (h2 : ¬ cz cd x 0 → TT w D me (pf, lv, st, t, nc, ns) Q) : TT w D me (pc, lv, .int (i32 x) :: st, t, nc, ns) Q := by
  subst hp
  exact Tm_if hi ht hx h1 h2
theorem T_icmp (pt pf : Nat) {cd : ClassFile.Cond} {off x y : Int} {len p q r : Nat} (hi : me.2.2.2.2.2 pc = some (.if_icmp cd off, len, p, q, r)) (ht : am_to pc off = some pt) (hp : pc + 3 = pf) (hx : R32 x) (hy : R32 y) (h1 : cz cd x y → TT w D me (pt, lv, st, t, nc, ns) Q) (h2 : ¬ cz cd x y → TT w D me (pf, lv, st, t, nc, ns) Q) : TT w D me (pc, lv, .int (i32 y) :: .int (i32 x) :: st, t, nc, ns) Q := by
  subst hp
  exact Tm_icmp hi ht hx hy h1 h2
theorem T_iadd (pc' : Nat) {x y : Int} {len p q r : Nat} (hi : me.2.2.2.2.2 pc = some (.iadd, len, p, q, r)) (hp : pc + 1 = pc') (h : TT w D me (pc', lv, .int (i32 (x + y)) :: st, t, nc, ns) Q) : TT w D me (pc, lv, .int (i32 y) :: .int (i32 x) :: st, t, nc, ns) Q := by
  subst hp
  exact Tm_iadd hi h
theorem T_isub (pc' : Nat) {x y : Int} {len p q r : Nat} (hi : me.2.2.2.2.2 pc = some (.isub, len, p, q, r)) (hp : pc + 1 = pc') (h : TT w D me (pc', lv, .int (i32 (x - y)) :: st, t, nc, ns) Q) : TT w D me (pc, lv, .int (i32 y) :: .int (i32 x) :: st, t, nc, ns) Q := by
  subst hp
  exact Tm_isub hi h
theorem T_imul (pc' : Nat) {x y : Int} {len p q r : Nat} (hi : me.2.2.2.2.2 pc = some (.imul, len, p, q, r)) (hp : pc + 1 = pc') (h : TT w D me (pc', lv, .int (i32 (x * y)) :: st, t, nc, ns) Q) : TT w D me (pc, lv, .int (i32 y) :: .int (i32 x) :: st, t, nc, ns) Q := by
  subst hp
  exact Tm_imul hi h
theorem T_idiv (pc' : Nat) {x y : Int} {len p q r : Nat} (hi : me.2.2.2.2.2 pc = some (.idiv, len, p, q, r)) (hp : pc + 1 = pc') (hx : 0 ≤ x) (hx2 : x < 2147483648) (hy : 0 < y) (hy2 : y < 2147483648) (h : TT w D me (pc', lv, .int (i32 (x / y)) :: st, t, nc, ns) Q) : TT w D me (pc, lv, .int (i32 y) :: .int (i32 x) :: st, t, nc, ns) Q := by
  subst hp
  refine Tm_step (S' := (pc + 1, lv, .int (i32 x / i32 y) :: st, t, nc, ns)) hi (fun call => ?_) (Tm_ev (i32_div hx hx2 hy hy2).symm h)
  show ag_lift (if i32 y = 0 then none else some (pc + 1, lv, .int (i32 x / i32 y) :: st)) t nc ns = _
  rw [if_neg (fun e => by rw [i32_0, i32_eq ⟨by omega, hy2⟩ R32_0] at e; omega)]
  rfl
theorem T_irem (pc' : Nat) {x y : Int} {len p q r : Nat} (hi : me.2.2.2.2.2 pc = some (.irem, len, p, q, r)) (hp : pc + 1 = pc') (hx : 0 ≤ x) (hx2 : x < 2147483648) (hy : 0 < y) (hy2 : y < 2147483648) (h : TT w D me (pc', lv, .int (i32 (x % y)) :: st, t, nc, ns) Q) : TT w D me (pc, lv, .int (i32 y) :: .int (i32 x) :: st, t, nc, ns) Q := by
  subst hp
  refine Tm_step (S' := (pc + 1, lv, .int (i32 x - i32 x / i32 y * i32 y) :: st, t, nc, ns)) hi (fun call => ?_) (Tm_ev (i32_rem hx hx2 hy hy2).symm h)
  show ag_lift (if i32 y = 0 then none else some (pc + 1, lv, .int (i32 x - i32 x / i32 y * i32 y) :: st)) t nc ns = _
  rw [if_neg (fun e => by rw [i32_0, i32_eq ⟨by omega, hy2⟩ R32_0] at e; omega)]
  rfl
theorem T_iand (pc' : Nat) {x y : Int} {len p q r : Nat} (hi : me.2.2.2.2.2 pc = some (.iand, len, p, q, r)) (hp : pc + 1 = pc') (hy : 0 ≤ y) (hy2 : y < 2147483648) (h : ∀ z, 0 ≤ z ∧ z ≤ y → TT w D me (pc', lv, .int (i32 z) :: st, t, nc, ns) Q) : TT w D me (pc, lv, .int (i32 y) :: .int (i32 x) :: st, t, nc, ns) Q := by
  subst hp
  obtain ⟨z, e, hz⟩ := i32_and (x := i32 x) hy hy2
  exact Tm_step (S' := (pc + 1, lv, .int (i32 x &&& i32 y) :: st, t, nc, ns)) hi (fun call => rfl) (Tm_ev e.symm (h z hz))
/-- an int that comes, whatever it is -/
theorem T_hv (pc' : Nat) (v : Int32) {st' : List Value} (hi : me.2.2.2.2.2 pc = some i) (hs : ∀ call, ag_step af_O 8192 w.1 (nm_E w.2.1 w.2.2.1 w.2.2.2) nm_cn (D + 1) call me i (pc, lv, st', t, nc, ns) = some (.inl (pc', lv, .int v :: st, t, nc, ns))) (h : ∀ z, R32 z → TT w D me (pc', lv, .int (i32 z) :: st, t, nc, ns) Q) : TT w D me (pc, lv, st', t, nc, ns) Q := by
  obtain ⟨z, hz, e⟩ := i32_ex v
  exact Tm_step hi hs (Tm_ev e.symm (h z hz))
theorem Tm_el {v u : Int64} (e : v = u) (h : TT w D me (pc, lv, .long v :: st, t, nc, ns) Q) : TT w D me (pc, lv, .long u :: st, t, nc, ns) Q := e ▸ h
theorem T_lhv (pc' : Nat) (v : Int64) {st' : List Value} (hi : me.2.2.2.2.2 pc = some i) (hs : ∀ call, ag_step af_O 8192 w.1 (nm_E w.2.1 w.2.2.1 w.2.2.2) nm_cn (D + 1) call me i (pc, lv, st', t, nc, ns) = some (.inl (pc', lv, .long v :: st, t, nc, ns))) (h : ∀ z, R64 z → TT w D me (pc', lv, .long (i64 z) :: st, t, nc, ns) Q) : TT w D me (pc, lv, st', t, nc, ns) Q := by
  obtain ⟨z, hz, e⟩ := i64_ex v
  exact Tm_step hi hs (Tm_el e.symm (h z hz))
theorem T_land (pc' : Nat) {x y : Int} {len p q r : Nat} (hi : me.2.2.2.2.2 pc = some (.land, len, p, q, r)) (hp : pc + 1 = pc') (hy : 0 ≤ y) (hy2 : y < 9223372036854775808) (h : ∀ z, 0 ≤ z ∧ z ≤ y → TT w D me (pc', lv, .long (i64 z) :: st, t, nc, ns) Q) : TT w D me (pc, lv, .long (i64 y) :: .long (i64 x) :: st, t, nc, ns) Q := by
  subst hp
  obtain ⟨z, e, hz⟩ := i64_and (x := i64 x) hy hy2
  exact Tm_step (S' := (pc + 1, lv, .long (i64 x &&& i64 y) :: st, t, nc, ns)) hi (fun call => rfl) (Tm_el e.symm (h z hz))
theorem T_i2l (pc' : Nat) {x : Int} {len p q r : Nat} (hi : me.2.2.2.2.2 pc = some (.i2l, len, p, q, r)) (hp : pc + 1 = pc') (hx : R32 x) (h : TT w D me (pc', lv, .long (i64 x) :: st, t, nc, ns) Q) : TT w D me (pc, lv, .int (i32 x) :: st, t, nc, ns) Q := by
  subst hp
  exact Tm_step (S' := (pc + 1, lv, .long (i32 x).toInt64 :: st, t, nc, ns)) hi (fun call => rfl) (Tm_el (i32_64 hx).symm h)
theorem T_l2i (pc' : Nat) {x : Int} {len p q r : Nat} (hi : me.2.2.2.2.2 pc = some (.l2i, len, p, q, r)) (hp : pc + 1 = pc') (h : TT w D me (pc', lv, .int (i32 x) :: st, t, nc, ns) Q) : TT w D me (pc, lv, .long (i64 x) :: st, t, nc, ns) Q := by
  subst hp
  exact Tm_step (S' := (pc + 1, lv, .int (i64 x).toInt32 :: st, t, nc, ns)) hi (fun call => rfl) (Tm_ev (i64_32 x).symm h)
theorem T_ladd (pc' : Nat) {x y : Int} {len p q r : Nat} (hi : me.2.2.2.2.2 pc = some (.ladd, len, p, q, r)) (hp : pc + 1 = pc') (h : TT w D me (pc', lv, .long (i64 (x + y)) :: st, t, nc, ns) Q) : TT w D me (pc, lv, .long (i64 y) :: .long (i64 x) :: st, t, nc, ns) Q := by
  subst hp
  exact Tm_step (S' := (pc + 1, lv, .long (i64 x + i64 y) :: st, t, nc, ns)) hi (fun call => rfl) (Tm_el (i64_add x y).symm h)
theorem T_lsub (pc' : Nat) {x y : Int} {len p q r : Nat} (hi : me.2.2.2.2.2 pc = some (.lsub, len, p, q, r)) (hp : pc + 1 = pc') (h : TT w D me (pc', lv, .long (i64 (x - y)) :: st, t, nc, ns) Q) : TT w D me (pc, lv, .long (i64 y) :: .long (i64 x) :: st, t, nc, ns) Q := by
  subst hp
  exact Tm_step (S' := (pc + 1, lv, .long (i64 x - i64 y) :: st, t, nc, ns)) hi (fun call => rfl) (Tm_el (i64_sub x y).symm h)
theorem T_lmul (pc' : Nat) {x y : Int} {len p q r : Nat} (hi : me.2.2.2.2.2 pc = some (.lmul, len, p, q, r)) (hp : pc + 1 = pc') (h : TT w D me (pc', lv, .long (i64 (x * y)) :: st, t, nc, ns) Q) : TT w D me (pc, lv, .long (i64 y) :: .long (i64 x) :: st, t, nc, ns) Q := by
  subst hp
  exact Tm_step (S' := (pc + 1, lv, .long (i64 x * i64 y) :: st, t, nc, ns)) hi (fun call => rfl) (Tm_el (i64_mul x y).symm h)
theorem T_lrem (pc' : Nat) {x y : Int} {len p q r : Nat} (hi : me.2.2.2.2.2 pc = some (.lrem, len, p, q, r)) (hp : pc + 1 = pc') (hx : 0 ≤ x) (hx2 : x < 9223372036854775808) (hy : 0 < y) (hy2 : y < 9223372036854775808) (h : TT w D me (pc', lv, .long (i64 (x % y)) :: st, t, nc, ns) Q) : TT w D me (pc, lv, .long (i64 y) :: .long (i64 x) :: st, t, nc, ns) Q := by
  subst hp
  refine Tm_step (S' := (pc + 1, lv, .long (i64 x - i64 x / i64 y * i64 y) :: st, t, nc, ns)) hi (fun call => ?_) (Tm_el (i64_rem hx hx2 hy hy2).symm h)
  show ag_lift (if i64 y = 0 then none else some (pc + 1, lv, .long (i64 x - i64 x / i64 y * i64 y) :: st)) t nc ns = _
  rw [if_neg (fun e => by
    have h3 := congrArg Int64.toInt e
    rw [i64_to ⟨by omega, hy2⟩] at h3
    have h4 : (0 : Int64).toInt = 0 := rfl
    omega)]
  rfl
theorem T_lcmp (pc' : Nat) {x y : Int} {len p q r : Nat} (hi : me.2.2.2.2.2 pc = some (.lcmp, len, p, q, r)) (hp : pc + 1 = pc') (hx : R64 x) (hy : R64 y) (h : ∀ z, (x < y → z = -1) ∧ (x = y → z = 0) ∧ (y < x → z = 1) ∧ -1 ≤ z ∧ z ≤ 1 → TT w D me (pc', lv, .int (i32 z) :: st, t, nc, ns) Q) : TT w D me (pc, lv, .long (i64 y) :: .long (i64 x) :: st, t, nc, ns) Q := by
  subst hp
  have e1 : i64 x > i64 y ↔ y < x := by
    show i64 y < i64 x ↔ _
    rw [Int64.lt_iff_toInt_lt, i64_to hx, i64_to hy]
  have e2 : i64 x = i64 y ↔ x = y := ⟨fun h => by rw [← i64_to hx, ← i64_to hy, h], fun h => by rw [h]⟩
  have hs : ∃ z, lg_cmp (i64 x) (i64 y) = i32 z ∧ (x < y → z = -1) ∧ (x = y → z = 0) ∧ (y < x → z = 1) ∧ -1 ≤ z ∧ z ≤ 1 := by
    unfold lg_cmp
    by_cases h1 : y < x
    · rw [if_pos (e1.mpr h1)]
      exact ⟨1, rfl, by omega, by omega, by omega, by omega, by omega⟩
    · rw [if_neg (fun h => h1 (e1.mp h))]
      by_cases h2 : x = y
      · rw [if_pos (e2.mpr h2)]
        exact ⟨0, rfl, by omega, by omega, by omega, by omega, by omega⟩
      · rw [if_neg (fun h => h2 (e2.mp h))]
        exact ⟨-1, rfl, by omega, by omega, by omega, by omega, by omega⟩
  obtain ⟨z, e, hz⟩ := hs
  exact Tm_step (S' := (pc + 1, lv, .int (lg_cmp (i64 x) (i64 y)) :: st, t, nc, ns)) hi (fun call => rfl) (Tm_ev e.symm (h z hz))
theorem T_dup2 (pc' : Nat) {u v : Value} (hi : me.2.2.2.2.2 pc = some i) (hs : ∀ call, ag_step af_O 8192 w.1 (nm_E w.2.1 w.2.2.1 w.2.2.2) nm_cn (D + 1) call me i (pc, lv, u :: v :: st, t, nc, ns) = some (.inl (pc', lv, u :: v :: u :: v :: st, t, nc, ns))) (h : TT w D me (pc', lv, u :: v :: u :: v :: st, t, nc, ns) Q) : TT w D me (pc, lv, u :: v :: st, t, nc, ns) Q := Tm_step hi hs h
theorem T_pop (pc' : Nat) {u : Value} (hi : me.2.2.2.2.2 pc = some i) (hs : ∀ call, ag_step af_O 8192 w.1 (nm_E w.2.1 w.2.2.1 w.2.2.2) nm_cn (D + 1) call me i (pc, lv, u :: st, t, nc, ns) = some (.inl (pc', lv, st, t, nc, ns))) (h : TT w D me (pc', lv, st, t, nc, ns) Q) : TT w D me (pc, lv, u :: st, t, nc, ns) Q := Tm_step hi hs h
theorem T_cast {x : Int} (v : Int) (e : x = v) (h : TT w D me (pc, lv, .int (i32 v) :: st, t, nc, ns) Q) : TT w D me (pc, lv, .int (i32 x) :: st, t, nc, ns) Q := e ▸ h
theorem T_iald (pc' k : Nat) {q len p p' p'' : Nat} {i : Int} (f : Int → Int) (hi : me.2.2.2.2.2 pc = some (.iaload, len, p, p', p'')) (hp : pc + 1 = pc') (hk : (mok k && (decide (mkd k = 3) && (decide (mcl k = q) && decide (mln k < 1000000)))) = true) (h0 : 0 ≤ i) (h1 : i < mln k) (hf : (mO m l a).2 k = f) (h : TT w D me (pc', lv, .int (i32 (f i)) :: st, (mhp (mO m l a) c, N), nc, ns) Q) : TT w D me (pc, lv, .int (i32 i) :: .ref q :: st, (mhp (mO m l a) c, N), nc, ns) Q := by
  subst hp
  exact Tm_iald hi hk h0 h1 hf h
theorem T_bald (pc' k : Nat) {q len p p' p'' : Nat} {i : Int} (f : Int → Int) (hi : me.2.2.2.2.2 pc = some (.baload, len, p, p', p'')) (hp : pc + 1 = pc') (hk : (mok k && (decide (mkd k = 5) && (decide (mcl k = q) && decide (mln k < 1000000)))) = true) (h0 : 0 ≤ i) (h1 : i < mln k) (hf : (mO m l a).2 k = f) (h : TT w D me (pc', lv, .int (i32 (f i)) :: st, (mhp (mO m l a) c, N), nc, ns) Q) : TT w D me (pc, lv, .int (i32 i) :: .ref q :: st, (mhp (mO m l a) c, N), nc, ns) Q := by
  subst hp
  exact Tm_bald hi hk h0 h1 hf h
theorem T_lald (pc' k : Nat) {q len p p' p'' : Nat} {i : Int} (f : Int → Int) (hi : me.2.2.2.2.2 pc = some (.laload, len, p, p', p'')) (hp : pc + 1 = pc') (hk : (mok k && (decide (mkd k = 4) && (decide (mcl k = q) && decide (mln k < 1000000)))) = true) (h0 : 0 ≤ i) (h1 : i < mln k) (hf : (mO m l a).2 k = f) (h : TT w D me (pc', lv, .long (i64 (f i)) :: st, (mhp (mO m l a) c, N), nc, ns) Q) : TT w D me (pc, lv, .int (i32 i) :: .ref q :: st, (mhp (mO m l a) c, N), nc, ns) Q := by
  subst hp
  exact Tm_lald hi hk h0 h1 hf h
theorem T_iast (pc' k : Nat) {a' : List (Nat × (Int → Int))} {q len p p' p'' : Nat} {i x : Int} (f : Int → Int) (hi : me.2.2.2.2.2 pc = some (.iastore, len, p, p', p'')) (hp : pc + 1 = pc') (hk : (mok k && (decide (mkd k = 3) && (decide (mcl k = q) && decide (mln k < 1000000)))) = true) (h0 : 0 ≤ i) (h1 : i < mln k) (hf : (mO m l a).2 k = f) (ha : ins k (upI f i x) a = a') (h : TT w D me (pc', lv, st, (mhp (mO m l a') c, N), nc, ns) Q) : TT w D me (pc, lv, .int (i32 x) :: .int (i32 i) :: .ref q :: st, (mhp (mO m l a) c, N), nc, ns) Q := by
  subst hp
  exact Tm_iast hi hk h0 h1 hf ha h
theorem T_last (pc' k : Nat) {a' : List (Nat × (Int → Int))} {q len p p' p'' : Nat} {i x : Int} (f : Int → Int) (hi : me.2.2.2.2.2 pc = some (.lastore, len, p, p', p'')) (hp : pc + 1 = pc') (hk : (mok k && (decide (mkd k = 4) && (decide (mcl k = q) && decide (mln k < 1000000)))) = true) (h0 : 0 ≤ i) (h1 : i < mln k) (hf : (mO m l a).2 k = f) (ha : ins k (upI f i x) a = a') (h : TT w D me (pc', lv, st, (mhp (mO m l a') c, N), nc, ns) Q) : TT w D me (pc, lv, .long (i64 x) :: .int (i32 i) :: .ref q :: st, (mhp (mO m l a) c, N), nc, ns) Q := by
  subst hp
  exact Tm_last hi hk h0 h1 hf ha h
theorem T_bast (pc' k : Nat) {a' : List (Nat × (Int → Int))} {q len p p' p'' : Nat} {i x : Int} (f : Int → Int) (hi : me.2.2.2.2.2 pc = some (.bastore, len, p, p', p'')) (hp : pc + 1 = pc') (hk : (mok k && (decide (mkd k = 5) && (decide (mcl k = q) && decide (mln k < 1000000)))) = true) (h0 : 0 ≤ i) (h1 : i < mln k) (hx : x = 0 ∨ x = 1) (hf : (mO m l a).2 k = f) (ha : ins k (upI f i x) a = a') (h : TT w D me (pc', lv, st, (mhp (mO m l a') c, N), nc, ns) Q) : TT w D me (pc, lv, .int (i32 x) :: .int (i32 i) :: .ref q :: st, (mhp (mO m l a) c, N), nc, ns) Q := by
  subst hp
  exact Tm_bast hi hk h0 h1 hx hf ha h
/-- a truth value goes back -/
theorem T_retb {z : Int} {len p q r : Nat} (hi : me.2.2.2.2.2 pc = some (.ireturn, len, p, q, r)) (hr : me.2.2.2.1 = some .boolean) (hz : z = 0 ∨ z = 1) (h : Q (.inl (some (.int (i32 z))), t, nc, ns)) : TT w D me (pc, lv, [.int (i32 z)], t, nc, ns) Q := by
  refine Tm_end hi (fun call => ?_) h
  show ag_end (am_ireturn me.2.2.2.1 [.int (i32 z)] [] nc ns) t = _
  rw [hr]
  unfold am_ireturn
  dsimp only
  rcases hz with rfl | rfl
  · rw [if_pos (Or.inl (show i32 0 = 0 from rfl))]
    rfl
  · rw [if_pos (Or.inr (show i32 1 = 1 from rfl))]
    rfl
end MS5
