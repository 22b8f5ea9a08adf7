def Q_Math_max (m : mR) (c : Nat → Option am_C) (N : Nat) (a : Int) (b : Int) : ag_Re af_T → Prop := fun R => (∃ (r : Int), ((-2147483648) ≤ r ∧ r ≤ 2147483647) ∧ (r = a ∨ r = b) ∧ (a ≤ r ∧ b ≤ r) ∧ R = (.inl (some (.int (i32 r))), (khp m c, N), 0, 0))
set_option maxHeartbeats 3000000 in
theorem c_Math_max (w : wX) (m : mR) (c : Nat → Option am_C) (N D : Nat) (hD : 1 ≤ D) (hT : KTy m) (a : Int) (b : Int) (qa : R32 a) (qb : R32 b) : TC w D 61 [.int (i32 a), .int (i32 b)] (khp m c, N) (Q_Math_max m c N a b) := by
  obtain ⟨D, rfl⟩ : ∃ k, D = k + 1 := ⟨D - 1, by omega⟩
  obtain ⟨qaa, qab⟩ := id qa
  obtain ⟨qba, qbb⟩ := id qb
  refine Tc_of rfl ?_
  rw [show (khp m c, N) = (khp (mO m [] []) c, N) from by rw [mO_nil m]]
  show TT w D pm_61 (0, [(0, .int (i32 a)), (1, .int (i32 b))], [], (khp (mO m [] []) c, N), 0, 0) (Q_Math_max m c N a b)
  refine T_ld 1 (.int (i32 a)) rfl (fun _ => rfl) ?_
  refine T_ld 2 (.int (i32 b)) rfl (fun _ => rfl) ?_
  refine T_icmp 9 5 rfl rfl rfl (r32 (by omega) (by omega)) (r32 (by omega) (by omega)) (fun (h1 : a < b) => ?_) (fun (h1 : ¬ (a < b)) => ?_)
  · skip
    refine T_ld 10 (.int (i32 b)) rfl (fun _ => rfl) ?_
    refine T_ret rfl (fun _ => rfl) ?_
    exact ⟨b, ⟨by omega, by omega⟩, (show b = a ∨ b = b by omega), (show a ≤ b ∧ b ≤ b by omega), rfl⟩
  · skip
    refine T_ld 6 (.int (i32 a)) rfl (fun _ => rfl) ?_
    refine T_goto 10 rfl (fun _ => rfl) ?_
    refine T_ret rfl (fun _ => rfl) ?_
    exact ⟨a, ⟨by omega, by omega⟩, (show a = a ∨ a = b by omega), (show a ≤ a ∧ b ≤ a by omega), rfl⟩
def Q_Math_min (m : mR) (c : Nat → Option am_C) (N : Nat) (a : Int) (b : Int) : ag_Re af_T → Prop := fun R => (∃ (r : Int), ((-2147483648) ≤ r ∧ r ≤ 2147483647) ∧ (r = a ∨ r = b) ∧ (r ≤ a ∧ r ≤ b) ∧ R = (.inl (some (.int (i32 r))), (khp m c, N), 0, 0))
set_option maxHeartbeats 3000000 in
theorem c_Math_min (w : wX) (m : mR) (c : Nat → Option am_C) (N D : Nat) (hD : 1 ≤ D) (hT : KTy m) (a : Int) (b : Int) (qa : R32 a) (qb : R32 b) : TC w D 62 [.int (i32 a), .int (i32 b)] (khp m c, N) (Q_Math_min m c N a b) := by
  obtain ⟨D, rfl⟩ : ∃ k, D = k + 1 := ⟨D - 1, by omega⟩
  obtain ⟨qaa, qab⟩ := id qa
  obtain ⟨qba, qbb⟩ := id qb
  refine Tc_of rfl ?_
  rw [show (khp m c, N) = (khp (mO m [] []) c, N) from by rw [mO_nil m]]
  show TT w D pm_62 (0, [(0, .int (i32 a)), (1, .int (i32 b))], [], (khp (mO m [] []) c, N), 0, 0) (Q_Math_min m c N a b)
  refine T_ld 1 (.int (i32 a)) rfl (fun _ => rfl) ?_
  refine T_ld 2 (.int (i32 b)) rfl (fun _ => rfl) ?_
  refine T_icmp 9 5 rfl rfl rfl (r32 (by omega) (by omega)) (r32 (by omega) (by omega)) (fun (h1 : b < a) => ?_) (fun (h1 : ¬ (b < a)) => ?_)
  · skip
    refine T_ld 10 (.int (i32 b)) rfl (fun _ => rfl) ?_
    refine T_ret rfl (fun _ => rfl) ?_
    exact ⟨b, ⟨by omega, by omega⟩, (show b = a ∨ b = b by omega), (show b ≤ a ∧ b ≤ b by omega), rfl⟩
  · skip
    refine T_ld 6 (.int (i32 a)) rfl (fun _ => rfl) ?_
    refine T_goto 10 rfl (fun _ => rfl) ?_
    refine T_ret rfl (fun _ => rfl) ?_
    exact ⟨a, ⟨by omega, by omega⟩, (show a = a ∨ a = b by omega), (show a ≤ a ∧ a ≤ b by omega), rfl⟩
def Q_Long_bitCount (m : mR) (c : Nat → Option am_C) (N : Nat) (v : Int) : ag_Re af_T → Prop := fun R => (∃ (r : Int), (0 ≤ r ∧ r ≤ 127) ∧ R = (.inl (some (.int (i32 r))), (khp m c, N), 0, 0))
set_option maxHeartbeats 3000000 in
theorem c_Long_bitCount (w : wX) (m : mR) (c : Nat → Option am_C) (N D : Nat) (hD : 1 ≤ D) (hT : KTy m) (v : Int) (qv : R64 v) : TC w D 197 [.long (i64 v)] (khp m c, N) (Q_Long_bitCount m c N v) := by
  obtain ⟨D, rfl⟩ : ∃ k, D = k + 1 := ⟨D - 1, by omega⟩
  obtain ⟨qva, qvb⟩ := id qv
  refine Tc_of rfl ?_
  rw [show (khp m c, N) = (khp (mO m [] []) c, N) from by rw [mO_nil m]]
  show TT w D pm_197 (0, [(0, .long (i64 v))], [], (khp (mO m [] []) c, N), 0, 0) (Q_Long_bitCount m c N v)
  refine T_ld 1 (.long (i64 v)) rfl (fun _ => rfl) ?_
  refine T_ld 2 (.long (i64 v)) rfl (fun _ => rfl) ?_
  refine T_ld 3 (.int (i32 1)) rfl (fun _ => rfl) ?_
  refine T_lushr1 4 rfl rfl (fun z1 h2 => ?_)
  obtain ⟨h2a, h2b⟩ := h2
  refine T_ld 7 (.long (i64 6148914691236517205)) rfl (fun _ => rfl) ?_
  refine T_land 8 rfl rfl (by decide) (by decide) (fun z3 h4 => ?_)
  refine T_lsub 9 rfl rfl ?_
  refine T_lnm (fun z5 h6 => ?_)
  obtain ⟨h6a, h6b⟩ := h6
  refine T_sto 10 [(0, .long (i64 z5))] rfl (fun _ => rfl) ?_
  refine T_ld 11 (.long (i64 z5)) rfl (fun _ => rfl) ?_
  refine T_ld 14 (.long (i64 3689348814741910323)) rfl (fun _ => rfl) ?_
  refine T_land 15 rfl rfl (by decide) (by decide) (fun z7 h8 => ?_)
  refine T_ld 16 (.long (i64 z5)) rfl (fun _ => rfl) ?_
  refine T_ld 17 (.int (i32 2)) rfl (fun _ => rfl) ?_
  refine T_lhv 18 _ rfl (fun _ => rfl) (fun z9 h10 => ?_)
  obtain ⟨h10a, h10b⟩ := h10
  refine T_ld 21 (.long (i64 3689348814741910323)) rfl (fun _ => rfl) ?_
  refine T_land 22 rfl rfl (by decide) (by decide) (fun z11 h12 => ?_)
  refine T_ladd 23 rfl rfl ?_
  refine T_lnm (fun z13 h14 => ?_)
  obtain ⟨h14a, h14b⟩ := h14
  refine T_sto 24 [(0, .long (i64 z13))] rfl (fun _ => rfl) ?_
  refine T_ld 25 (.long (i64 z13)) rfl (fun _ => rfl) ?_
  refine T_ld 26 (.long (i64 z13)) rfl (fun _ => rfl) ?_
  refine T_ld 27 (.int (i32 4)) rfl (fun _ => rfl) ?_
  refine T_lhv 28 _ rfl (fun _ => rfl) (fun z15 h16 => ?_)
  obtain ⟨h16a, h16b⟩ := h16
  refine T_ladd 29 rfl rfl ?_
  refine T_lnm (fun z17 h18 => ?_)
  obtain ⟨h18a, h18b⟩ := h18
  refine T_ld 32 (.long (i64 1085102592571150095)) rfl (fun _ => rfl) ?_
  refine T_land 33 rfl rfl (by decide) (by decide) (fun z19 h20 => ?_)
  refine T_sto 34 [(0, .long (i64 z19))] rfl (fun _ => rfl) ?_
  refine T_ld 35 (.long (i64 z19)) rfl (fun _ => rfl) ?_
  refine T_ld 36 (.long (i64 z19)) rfl (fun _ => rfl) ?_
  refine T_ld 38 (.int (i32 8)) rfl (fun _ => rfl) ?_
  refine T_lhv 39 _ rfl (fun _ => rfl) (fun z21 h22 => ?_)
  obtain ⟨h22a, h22b⟩ := h22
  refine T_ladd 40 rfl rfl ?_
  refine T_lnm (fun z23 h24 => ?_)
  obtain ⟨h24a, h24b⟩ := h24
  refine T_sto 41 [(0, .long (i64 z23))] rfl (fun _ => rfl) ?_
  refine T_ld 42 (.long (i64 z23)) rfl (fun _ => rfl) ?_
  refine T_ld 43 (.long (i64 z23)) rfl (fun _ => rfl) ?_
  refine T_ld 45 (.int (i32 16)) rfl (fun _ => rfl) ?_
  refine T_lhv 46 _ rfl (fun _ => rfl) (fun z25 h26 => ?_)
  obtain ⟨h26a, h26b⟩ := h26
  refine T_ladd 47 rfl rfl ?_
  refine T_lnm (fun z27 h28 => ?_)
  obtain ⟨h28a, h28b⟩ := h28
  refine T_sto 48 [(0, .long (i64 z27))] rfl (fun _ => rfl) ?_
  refine T_ld 49 (.long (i64 z27)) rfl (fun _ => rfl) ?_
  refine T_ld 50 (.long (i64 z27)) rfl (fun _ => rfl) ?_
  refine T_ld 52 (.int (i32 32)) rfl (fun _ => rfl) ?_
  refine T_lhv 53 _ rfl (fun _ => rfl) (fun z29 h30 => ?_)
  obtain ⟨h30a, h30b⟩ := h30
  refine T_ladd 54 rfl rfl ?_
  refine T_lnm (fun z31 h32 => ?_)
  obtain ⟨h32a, h32b⟩ := h32
  refine T_sto 55 [(0, .long (i64 z31))] rfl (fun _ => rfl) ?_
  refine T_ld 56 (.long (i64 z31)) rfl (fun _ => rfl) ?_
  refine T_l2i 57 rfl rfl ?_
  refine T_ld 59 (.int (i32 127)) rfl (fun _ => rfl) ?_
  refine T_iand 60 rfl rfl (by decide) (by decide) (fun z33 h34 => ?_)
  refine T_ret rfl (fun _ => rfl) ?_
  exact ⟨z33, ⟨by omega, by omega⟩, rfl⟩
def Q_pw_ones (m : mR) (c : Nat → Option am_C) (N : Nat) (v : Int) : ag_Re af_T → Prop := fun R => (∃ (r : Int), ((-9223372036854775808) ≤ r ∧ r ≤ 9223372036854775807) ∧ R = (.inl (some (.long (i64 r))), (khp m c, N), 0, 0))
set_option maxHeartbeats 3000000 in
theorem c_pw_ones (w : wX) (m : mR) (c : Nat → Option am_C) (N D : Nat) (hD : 1 ≤ D) (hT : KTy m) (v : Int) (qv : R32 v) : TC w D 116 [.int (i32 v)] (khp m c, N) (Q_pw_ones m c N v) := by
  obtain ⟨D, rfl⟩ : ∃ k, D = k + 1 := ⟨D - 1, by omega⟩
  obtain ⟨qva, qvb⟩ := id qv
  refine Tc_of rfl ?_
  rw [show (khp m c, N) = (khp (mO m [] []) c, N) from by rw [mO_nil m]]
  show TT w D pm_116 (0, [(0, .int (i32 v))], [], (khp (mO m [] []) c, N), 0, 0) (Q_pw_ones m c N v)
  refine T_ld 1 (.int (i32 v)) rfl (fun _ => rfl) ?_
  refine T_ld 3 (.int (i32 64)) rfl (fun _ => rfl) ?_
  refine T_icmp 12 6 rfl rfl rfl (r32 (by omega) (by omega)) ⟨by decide, by decide⟩ (fun (h1 : v < 64) => ?_) (fun (h1 : ¬ (v < 64)) => ?_)
  · skip
    refine T_ld 13 (.long (i64 1)) rfl (fun _ => rfl) ?_
    refine T_ld 14 (.int (i32 v)) rfl (fun _ => rfl) ?_
    refine T_lhv 15 _ rfl (fun _ => rfl) (fun z2 h3 => ?_)
    obtain ⟨h3a, h3b⟩ := h3
    refine T_ld 16 (.long (i64 1)) rfl (fun _ => rfl) ?_
    refine T_lsub 17 rfl rfl ?_
    refine T_lnm (fun z4 h5 => ?_)
    obtain ⟨h5a, h5b⟩ := h5
    refine T_ret rfl (fun _ => rfl) ?_
    exact ⟨z4, ⟨by omega, by omega⟩, rfl⟩
  · skip
    refine T_ld 9 (.long (i64 (-1))) rfl (fun _ => rfl) ?_
    refine T_goto 17 rfl (fun _ => rfl) ?_
    refine T_ret rfl (fun _ => rfl) ?_
    exact ⟨(-1), ⟨by omega, by omega⟩, rfl⟩
def fF_fill_pw_ready : List Nat := []
def fA_fill_pw_ready : List Nat := [0]
def Q_fill_pw_ready (m : mR) (c : Nat → Option am_C) (N : Nat) (v : Int) : ag_Re af_T → Prop := fun R => (∃ (M : mR), KTy M ∧ fr fF_fill_pw_ready fA_fill_pw_ready m M ∧ R = (.inl (none), (khp M c, N), 0, 0))
set_option maxHeartbeats 3000000 in
theorem c_fill_pw_ready (w : wX) (m : mR) (c : Nat → Option am_C) (N D : Nat) (hD : 1 ≤ D) (hT : KTy m) (v : Int) (qv : R32 v) (p0 : -2147483648 ≤ v ∧ v ≤ 2147483647) : TC w D 25 [.ref 1, .int (i32 v)] (khp m c, N) (Q_fill_pw_ready m c N v) := by
  obtain ⟨D, rfl⟩ : ∃ k, D = k + 1 := ⟨D - 1, by omega⟩
  obtain ⟨qva, qvb⟩ := id qv
  refine Tc_of rfl ?_
  rw [show (khp m c, N) = (khp (mO m [] []) c, N) from by rw [mO_nil m]]
  show TT w D pm_25 (0, [(0, .ref 1), (1, .int (i32 v))], [], (khp (mO m [] []) c, N), 0, 0) (Q_fill_pw_ready m c N v)
  refine T_ld 1 (.int (i32 0)) rfl (fun _ => rfl) ?_
  refine T_sto 2 [(2, .int (i32 0)), (0, .ref 1), (1, .int (i32 v))] rfl (fun _ => rfl) ?_
  refine T_ld 3 (.ref 1) rfl (fun _ => rfl) ?_
  refine T_ld1 4 (.int (i32 5)) rfl (fun _ => rfl) ?_
  refine T_sto 5 [(3, .int (i32 5)), (2, .int (i32 0)), (0, .ref 1), (1, .int (i32 v))] rfl (fun _ => rfl) ?_
  have L5_3 : ∀ (n9 : Nat) (v1 : Int) (m2 : mR), (R32 v1) → KTy m2 → fr [] [0] (mO m [] []) m2 → (0 ≤ v1) → (v1 ≤ 5) → 5 - v1 < (n9 : Int) → TT w D pm_25 (5, [(0, .ref 1), (1, .int (i32 v)), (2, .int (i32 v1)), (3, .int (i32 5))], [], (khp (mO m2 [] []) c, N), 0, 0) (Q_fill_pw_ready m c N v) := by
    intro n9
    induction n9 with
    | zero =>
      intro v1 m2 q6 Tm2 Fm2 ic4 ic5 hmu
      obtain ⟨q6a, q6b⟩ := id q6
      exfalso
      omega
    | succ n9 ih =>
      intro v1 m2 q6 Tm2 Fm2 ic4 ic5 hmu
      obtain ⟨q6a, q6b⟩ := id q6
      have ih10 := ih
      refine T_ld 6 (.int (i32 v1)) rfl (fun _ => rfl) ?_
      refine T_ld 7 (.int (i32 5)) rfl (fun _ => rfl) ?_
      refine T_icmp 20 10 rfl rfl rfl (r32 (by omega) (by omega)) ⟨by decide, by decide⟩ (fun (h11 : (5 : Int) ≤ v1) => ?_) (fun (h11 : ¬ ((5 : Int) ≤ v1)) => ?_)
      · skip
        refine T_ret rfl (fun _ => rfl) ?_
        exact ⟨(mO m2 [] []), Tm2, (fr_m (fr_s Fm2 (fr_m fr_0 rfl rfl) rfl rfl) rfl rfl), rfl⟩
      · skip
        refine T_ld 11 (.ref 1) rfl (fun _ => rfl) ?_
        refine T_ld 12 (.int (i32 v1)) rfl (fun _ => rfl) ?_
        refine T_ld 13 (.int (i32 v)) rfl (fun _ => rfl) ?_
        have G12 : ∀ j, (-2147483648) ≤ (upI (m2.2 0) v1 v) j ∧ (upI (m2.2 0) v1 v) j ≤ 2147483647 := upI_rg (Tm2.2.1 0) ⟨by omega, by omega⟩
        refine K_iast (a' := [(0, upI (m2.2 0) v1 v)]) 14 0 (m2.2 0) rfl rfl rfl (by omega) (show v1 < (5 : Int) by omega) rfl rfl ?_
        refine T_iinc 17 [(2, .int (i32 (v1 + 1))), (0, .ref 1), (1, .int (i32 v)), (3, .int (i32 5))] rfl rfl (by decide) rfl rfl ?_
        refine T_goto 5 rfl (fun _ => rfl) ?_
        refine Tm_lv (a := [(0, .ref 1), (1, .int (i32 v)), (2, .int (i32 (v1 + 1))), (3, .int (i32 5))]) rfl rfl ⟨rfl, rfl, rfl, rfl, trivial⟩ ?_
        exact ih10 (v1 + 1) (mO m2 [] [(0, upI (m2.2 0) v1 v)]) (r32 (by omega) (by omega)) (KTy_mO Tm2 rfl rfl trivial ⟨G12, trivial⟩) (fr_m (fr_s Fm2 (fr_m fr_0 rfl rfl) rfl rfl) rfl rfl) (show 0 ≤ (v1 + 1) by omega) (show (v1 + 1) ≤ 5 by omega) (show 5 - (v1 + 1) < (n9 : Int) by omega)
  refine Tm_lv (a := [(0, .ref 1), (1, .int (i32 v)), (2, .int (i32 0)), (3, .int (i32 5))]) rfl rfl ⟨rfl, rfl, rfl, rfl, trivial⟩ ?_
  exact L5_3 ((5 - (0 : Int) : Int) + 1).toNat 0 (mO m [] []) ⟨by decide, by decide⟩ hT (fr_m fr_0 rfl rfl) (show 0 ≤ (0 : Int) by omega) (show (0 : Int) ≤ 5 by omega) (show 5 - (0 : Int) < ((((5 - (0 : Int) : Int) + 1).toNat : Nat) : Int) by omega)
def fF_fill_pr_fieldWidth : List Nat := []
def fA_fill_pr_fieldWidth : List Nat := [10]
def Q_fill_pr_fieldWidth (m : mR) (c : Nat → Option am_C) (N : Nat) (v : Int) : ag_Re af_T → Prop := fun R => (∃ (M : mR), KTy M ∧ fr fF_fill_pr_fieldWidth fA_fill_pr_fieldWidth m M ∧ R = (.inl (none), (khp M c, N), 0, 0))
set_option maxHeartbeats 3000000 in
theorem c_fill_pr_fieldWidth (w : wX) (m : mR) (c : Nat → Option am_C) (N D : Nat) (hD : 1 ≤ D) (hT : KTy m) (v : Int) (qv : R32 v) (p0 : 0 ≤ v ∧ v ≤ 64) : TC w D 25 [.ref 13, .int (i32 v)] (khp m c, N) (Q_fill_pr_fieldWidth m c N v) := by
  obtain ⟨D, rfl⟩ : ∃ k, D = k + 1 := ⟨D - 1, by omega⟩
  obtain ⟨qva, qvb⟩ := id qv
  refine Tc_of rfl ?_
  rw [show (khp m c, N) = (khp (mO m [] []) c, N) from by rw [mO_nil m]]
  show TT w D pm_25 (0, [(0, .ref 13), (1, .int (i32 v))], [], (khp (mO m [] []) c, N), 0, 0) (Q_fill_pr_fieldWidth m c N v)
  refine T_ld 1 (.int (i32 0)) rfl (fun _ => rfl) ?_
  refine T_sto 2 [(2, .int (i32 0)), (0, .ref 13), (1, .int (i32 v))] rfl (fun _ => rfl) ?_
  refine T_ld 3 (.ref 13) rfl (fun _ => rfl) ?_
  refine T_ld1 4 (.int (i32 192)) rfl (fun _ => rfl) ?_
  refine T_sto 5 [(3, .int (i32 192)), (2, .int (i32 0)), (0, .ref 13), (1, .int (i32 v))] rfl (fun _ => rfl) ?_
  have L5_3 : ∀ (n9 : Nat) (v1 : Int) (m2 : mR), (R32 v1) → KTy m2 → fr [] [10] (mO m [] []) m2 → (0 ≤ v1) → (v1 ≤ 192) → 192 - v1 < (n9 : Int) → TT w D pm_25 (5, [(0, .ref 13), (1, .int (i32 v)), (2, .int (i32 v1)), (3, .int (i32 192))], [], (khp (mO m2 [] []) c, N), 0, 0) (Q_fill_pr_fieldWidth m c N v) := by
    intro n9
    induction n9 with
    | zero =>
      intro v1 m2 q6 Tm2 Fm2 ic4 ic5 hmu
      obtain ⟨q6a, q6b⟩ := id q6
      exfalso
      omega
    | succ n9 ih =>
      intro v1 m2 q6 Tm2 Fm2 ic4 ic5 hmu
      obtain ⟨q6a, q6b⟩ := id q6
      have ih10 := ih
      refine T_ld 6 (.int (i32 v1)) rfl (fun _ => rfl) ?_
      refine T_ld 7 (.int (i32 192)) rfl (fun _ => rfl) ?_
      refine T_icmp 20 10 rfl rfl rfl (r32 (by omega) (by omega)) ⟨by decide, by decide⟩ (fun (h11 : (192 : Int) ≤ v1) => ?_) (fun (h11 : ¬ ((192 : Int) ≤ v1)) => ?_)
      · skip
        refine T_ret rfl (fun _ => rfl) ?_
        exact ⟨(mO m2 [] []), Tm2, (fr_m (fr_s Fm2 (fr_m fr_0 rfl rfl) rfl rfl) rfl rfl), rfl⟩
      · skip
        refine T_ld 11 (.ref 13) rfl (fun _ => rfl) ?_
        refine T_ld 12 (.int (i32 v1)) rfl (fun _ => rfl) ?_
        refine T_ld 13 (.int (i32 v)) rfl (fun _ => rfl) ?_
        have G12 : ∀ j, 0 ≤ (upI (m2.2 10) v1 v) j ∧ (upI (m2.2 10) v1 v) j ≤ 64 := upI_rg (Tm2.2.1 10) ⟨by omega, by omega⟩
        refine K_iast (a' := [(10, upI (m2.2 10) v1 v)]) 14 10 (m2.2 10) rfl rfl rfl (by omega) (show v1 < (192 : Int) by omega) rfl rfl ?_
        refine T_iinc 17 [(2, .int (i32 (v1 + 1))), (0, .ref 13), (1, .int (i32 v)), (3, .int (i32 192))] rfl rfl (by decide) rfl rfl ?_
        refine T_goto 5 rfl (fun _ => rfl) ?_
        refine Tm_lv (a := [(0, .ref 13), (1, .int (i32 v)), (2, .int (i32 (v1 + 1))), (3, .int (i32 192))]) rfl rfl ⟨rfl, rfl, rfl, rfl, trivial⟩ ?_
        exact ih10 (v1 + 1) (mO m2 [] [(10, upI (m2.2 10) v1 v)]) (r32 (by omega) (by omega)) (KTy_mO Tm2 rfl rfl trivial ⟨G12, trivial⟩) (fr_m (fr_s Fm2 (fr_m fr_0 rfl rfl) rfl rfl) rfl rfl) (show 0 ≤ (v1 + 1) by omega) (show (v1 + 1) ≤ 192 by omega) (show 192 - (v1 + 1) < (n9 : Int) by omega)
  refine Tm_lv (a := [(0, .ref 13), (1, .int (i32 v)), (2, .int (i32 0)), (3, .int (i32 192))]) rfl rfl ⟨rfl, rfl, rfl, rfl, trivial⟩ ?_
  exact L5_3 ((192 - (0 : Int) : Int) + 1).toNat 0 (mO m [] []) ⟨by decide, by decide⟩ hT (fr_m fr_0 rfl rfl) (show 0 ≤ (0 : Int) by omega) (show (0 : Int) ≤ 192 by omega) (show 192 - (0 : Int) < ((((192 - (0 : Int) : Int) + 1).toNat : Nat) : Int) by omega)
def fF_fill_pr_metaWidth : List Nat := []
def fA_fill_pr_metaWidth : List Nat := [14]
def Q_fill_pr_metaWidth (m : mR) (c : Nat → Option am_C) (N : Nat) (v : Int) : ag_Re af_T → Prop := fun R => (∃ (M : mR), KTy M ∧ fr fF_fill_pr_metaWidth fA_fill_pr_metaWidth m M ∧ R = (.inl (none), (khp M c, N), 0, 0))
set_option maxHeartbeats 3000000 in
theorem c_fill_pr_metaWidth (w : wX) (m : mR) (c : Nat → Option am_C) (N D : Nat) (hD : 1 ≤ D) (hT : KTy m) (v : Int) (qv : R32 v) (p0 : 0 ≤ v ∧ v ≤ 64) : TC w D 25 [.ref 17, .int (i32 v)] (khp m c, N) (Q_fill_pr_metaWidth m c N v) := by
  obtain ⟨D, rfl⟩ : ∃ k, D = k + 1 := ⟨D - 1, by omega⟩
  obtain ⟨qva, qvb⟩ := id qv
  refine Tc_of rfl ?_
  rw [show (khp m c, N) = (khp (mO m [] []) c, N) from by rw [mO_nil m]]
  show TT w D pm_25 (0, [(0, .ref 17), (1, .int (i32 v))], [], (khp (mO m [] []) c, N), 0, 0) (Q_fill_pr_metaWidth m c N v)
  refine T_ld 1 (.int (i32 0)) rfl (fun _ => rfl) ?_
  refine T_sto 2 [(2, .int (i32 0)), (0, .ref 17), (1, .int (i32 v))] rfl (fun _ => rfl) ?_
  refine T_ld 3 (.ref 17) rfl (fun _ => rfl) ?_
  refine T_ld1 4 (.int (i32 16)) rfl (fun _ => rfl) ?_
  refine T_sto 5 [(3, .int (i32 16)), (2, .int (i32 0)), (0, .ref 17), (1, .int (i32 v))] rfl (fun _ => rfl) ?_
  have L5_3 : ∀ (n9 : Nat) (v1 : Int) (m2 : mR), (R32 v1) → KTy m2 → fr [] [14] (mO m [] []) m2 → (0 ≤ v1) → (v1 ≤ 16) → 16 - v1 < (n9 : Int) → TT w D pm_25 (5, [(0, .ref 17), (1, .int (i32 v)), (2, .int (i32 v1)), (3, .int (i32 16))], [], (khp (mO m2 [] []) c, N), 0, 0) (Q_fill_pr_metaWidth m c N v) := by
    intro n9
    induction n9 with
    | zero =>
      intro v1 m2 q6 Tm2 Fm2 ic4 ic5 hmu
      obtain ⟨q6a, q6b⟩ := id q6
      exfalso
      omega
    | succ n9 ih =>
      intro v1 m2 q6 Tm2 Fm2 ic4 ic5 hmu
      obtain ⟨q6a, q6b⟩ := id q6
      have ih10 := ih
      refine T_ld 6 (.int (i32 v1)) rfl (fun _ => rfl) ?_
      refine T_ld 7 (.int (i32 16)) rfl (fun _ => rfl) ?_
      refine T_icmp 20 10 rfl rfl rfl (r32 (by omega) (by omega)) ⟨by decide, by decide⟩ (fun (h11 : (16 : Int) ≤ v1) => ?_) (fun (h11 : ¬ ((16 : Int) ≤ v1)) => ?_)
      · skip
        refine T_ret rfl (fun _ => rfl) ?_
        exact ⟨(mO m2 [] []), Tm2, (fr_m (fr_s Fm2 (fr_m fr_0 rfl rfl) rfl rfl) rfl rfl), rfl⟩
      · skip
        refine T_ld 11 (.ref 17) rfl (fun _ => rfl) ?_
        refine T_ld 12 (.int (i32 v1)) rfl (fun _ => rfl) ?_
        refine T_ld 13 (.int (i32 v)) rfl (fun _ => rfl) ?_
        have G12 : ∀ j, 0 ≤ (upI (m2.2 14) v1 v) j ∧ (upI (m2.2 14) v1 v) j ≤ 64 := upI_rg (Tm2.2.1 14) ⟨by omega, by omega⟩
        refine K_iast (a' := [(14, upI (m2.2 14) v1 v)]) 14 14 (m2.2 14) rfl rfl rfl (by omega) (show v1 < (16 : Int) by omega) rfl rfl ?_
        refine T_iinc 17 [(2, .int (i32 (v1 + 1))), (0, .ref 17), (1, .int (i32 v)), (3, .int (i32 16))] rfl rfl (by decide) rfl rfl ?_
        refine T_goto 5 rfl (fun _ => rfl) ?_
        refine Tm_lv (a := [(0, .ref 17), (1, .int (i32 v)), (2, .int (i32 (v1 + 1))), (3, .int (i32 16))]) rfl rfl ⟨rfl, rfl, rfl, rfl, trivial⟩ ?_
        exact ih10 (v1 + 1) (mO m2 [] [(14, upI (m2.2 14) v1 v)]) (r32 (by omega) (by omega)) (KTy_mO Tm2 rfl rfl trivial ⟨G12, trivial⟩) (fr_m (fr_s Fm2 (fr_m fr_0 rfl rfl) rfl rfl) rfl rfl) (show 0 ≤ (v1 + 1) by omega) (show (v1 + 1) ≤ 16 by omega) (show 16 - (v1 + 1) < (n9 : Int) by omega)
  refine Tm_lv (a := [(0, .ref 17), (1, .int (i32 v)), (2, .int (i32 0)), (3, .int (i32 16))]) rfl rfl ⟨rfl, rfl, rfl, rfl, trivial⟩ ?_
  exact L5_3 ((16 - (0 : Int) : Int) + 1).toNat 0 (mO m [] []) ⟨by decide, by decide⟩ hT (fr_m fr_0 rfl rfl) (show 0 ≤ (0 : Int) by omega) (show (0 : Int) ≤ 16 by omega) (show 16 - (0 : Int) < ((((16 - (0 : Int) : Int) + 1).toNat : Nat) : Int) by omega)
def fF_fill_sp_stageSteps : List Nat := []
def fA_fill_sp_stageSteps : List Nat := [63]
def Q_fill_sp_stageSteps (m : mR) (c : Nat → Option am_C) (N : Nat) (v : Int) : ag_Re af_T → Prop := fun R => (∃ (M : mR), KTy M ∧ fr fF_fill_sp_stageSteps fA_fill_sp_stageSteps m M ∧ R = (.inl (none), (khp M c, N), 0, 0))
set_option maxHeartbeats 3000000 in
theorem c_fill_sp_stageSteps (w : wX) (m : mR) (c : Nat → Option am_C) (N D : Nat) (hD : 1 ≤ D) (hT : KTy m) (v : Int) (qv : R32 v) (p0 : 0 ≤ v ∧ v ≤ 48) : TC w D 25 [.ref 71, .int (i32 v)] (khp m c, N) (Q_fill_sp_stageSteps m c N v) := by
  obtain ⟨D, rfl⟩ : ∃ k, D = k + 1 := ⟨D - 1, by omega⟩
  obtain ⟨qva, qvb⟩ := id qv
  refine Tc_of rfl ?_
  rw [show (khp m c, N) = (khp (mO m [] []) c, N) from by rw [mO_nil m]]
  show TT w D pm_25 (0, [(0, .ref 71), (1, .int (i32 v))], [], (khp (mO m [] []) c, N), 0, 0) (Q_fill_sp_stageSteps m c N v)
  refine T_ld 1 (.int (i32 0)) rfl (fun _ => rfl) ?_
  refine T_sto 2 [(2, .int (i32 0)), (0, .ref 71), (1, .int (i32 v))] rfl (fun _ => rfl) ?_
  refine T_ld 3 (.ref 71) rfl (fun _ => rfl) ?_
  refine T_ld1 4 (.int (i32 12)) rfl (fun _ => rfl) ?_
  refine T_sto 5 [(3, .int (i32 12)), (2, .int (i32 0)), (0, .ref 71), (1, .int (i32 v))] rfl (fun _ => rfl) ?_
  have L5_3 : ∀ (n9 : Nat) (v1 : Int) (m2 : mR), (R32 v1) → KTy m2 → fr [] [63] (mO m [] []) m2 → (0 ≤ v1) → (v1 ≤ 12) → 12 - v1 < (n9 : Int) → TT w D pm_25 (5, [(0, .ref 71), (1, .int (i32 v)), (2, .int (i32 v1)), (3, .int (i32 12))], [], (khp (mO m2 [] []) c, N), 0, 0) (Q_fill_sp_stageSteps m c N v) := by
    intro n9
    induction n9 with
    | zero =>
      intro v1 m2 q6 Tm2 Fm2 ic4 ic5 hmu
      obtain ⟨q6a, q6b⟩ := id q6
      exfalso
      omega
    | succ n9 ih =>
      intro v1 m2 q6 Tm2 Fm2 ic4 ic5 hmu
      obtain ⟨q6a, q6b⟩ := id q6
      have ih10 := ih
      refine T_ld 6 (.int (i32 v1)) rfl (fun _ => rfl) ?_
      refine T_ld 7 (.int (i32 12)) rfl (fun _ => rfl) ?_
      refine T_icmp 20 10 rfl rfl rfl (r32 (by omega) (by omega)) ⟨by decide, by decide⟩ (fun (h11 : (12 : Int) ≤ v1) => ?_) (fun (h11 : ¬ ((12 : Int) ≤ v1)) => ?_)
      · skip
        refine T_ret rfl (fun _ => rfl) ?_
        exact ⟨(mO m2 [] []), Tm2, (fr_m (fr_s Fm2 (fr_m fr_0 rfl rfl) rfl rfl) rfl rfl), rfl⟩
      · skip
        refine T_ld 11 (.ref 71) rfl (fun _ => rfl) ?_
        refine T_ld 12 (.int (i32 v1)) rfl (fun _ => rfl) ?_
        refine T_ld 13 (.int (i32 v)) rfl (fun _ => rfl) ?_
        have G12 : ∀ j, 0 ≤ (upI (m2.2 63) v1 v) j ∧ (upI (m2.2 63) v1 v) j ≤ 48 := upI_rg (Tm2.2.1 63) ⟨by omega, by omega⟩
        refine K_iast (a' := [(63, upI (m2.2 63) v1 v)]) 14 63 (m2.2 63) rfl rfl rfl (by omega) (show v1 < (12 : Int) by omega) rfl rfl ?_
        refine T_iinc 17 [(2, .int (i32 (v1 + 1))), (0, .ref 71), (1, .int (i32 v)), (3, .int (i32 12))] rfl rfl (by decide) rfl rfl ?_
        refine T_goto 5 rfl (fun _ => rfl) ?_
        refine Tm_lv (a := [(0, .ref 71), (1, .int (i32 v)), (2, .int (i32 (v1 + 1))), (3, .int (i32 12))]) rfl rfl ⟨rfl, rfl, rfl, rfl, trivial⟩ ?_
        exact ih10 (v1 + 1) (mO m2 [] [(63, upI (m2.2 63) v1 v)]) (r32 (by omega) (by omega)) (KTy_mO Tm2 rfl rfl trivial ⟨G12, trivial⟩) (fr_m (fr_s Fm2 (fr_m fr_0 rfl rfl) rfl rfl) rfl rfl) (show 0 ≤ (v1 + 1) by omega) (show (v1 + 1) ≤ 12 by omega) (show 12 - (v1 + 1) < (n9 : Int) by omega)
  refine Tm_lv (a := [(0, .ref 71), (1, .int (i32 v)), (2, .int (i32 0)), (3, .int (i32 12))]) rfl rfl ⟨rfl, rfl, rfl, rfl, trivial⟩ ?_
  exact L5_3 ((12 - (0 : Int) : Int) + 1).toNat 0 (mO m [] []) ⟨by decide, by decide⟩ hT (fr_m fr_0 rfl rfl) (show 0 ≤ (0 : Int) by omega) (show (0 : Int) ≤ 12 by omega) (show 12 - (0 : Int) < ((((12 - (0 : Int) : Int) + 1).toNat : Nat) : Int) by omega)
def fF_fill_sp_stageMemory : List Nat := []
def fA_fill_sp_stageMemory : List Nat := [64]
def Q_fill_sp_stageMemory (m : mR) (c : Nat → Option am_C) (N : Nat) (v : Int) : ag_Re af_T → Prop := fun R => (∃ (M : mR), KTy M ∧ fr fF_fill_sp_stageMemory fA_fill_sp_stageMemory m M ∧ (∀ j, 0 ≤ j → j < 12 → (M.2 64) j = v) ∧ R = (.inl (none), (khp M c, N), 0, 0))
set_option maxHeartbeats 3000000 in
theorem c_fill_sp_stageMemory (w : wX) (m : mR) (c : Nat → Option am_C) (N D : Nat) (hD : 1 ≤ D) (hT : KTy m) (v : Int) (qv : R32 v) (p0 : 0 ≤ v ∧ v ≤ 0) : TC w D 25 [.ref 72, .int (i32 v)] (khp m c, N) (Q_fill_sp_stageMemory m c N v) := by
  obtain ⟨D, rfl⟩ : ∃ k, D = k + 1 := ⟨D - 1, by omega⟩
  obtain ⟨qva, qvb⟩ := id qv
  refine Tc_of rfl ?_
  rw [show (khp m c, N) = (khp (mO m [] []) c, N) from by rw [mO_nil m]]
  show TT w D pm_25 (0, [(0, .ref 72), (1, .int (i32 v))], [], (khp (mO m [] []) c, N), 0, 0) (Q_fill_sp_stageMemory m c N v)
  refine T_ld 1 (.int (i32 0)) rfl (fun _ => rfl) ?_
  refine T_sto 2 [(2, .int (i32 0)), (0, .ref 72), (1, .int (i32 v))] rfl (fun _ => rfl) ?_
  refine T_ld 3 (.ref 72) rfl (fun _ => rfl) ?_
  refine T_ld1 4 (.int (i32 12)) rfl (fun _ => rfl) ?_
  refine T_sto 5 [(3, .int (i32 12)), (2, .int (i32 0)), (0, .ref 72), (1, .int (i32 v))] rfl (fun _ => rfl) ?_
  have L5_3 : ∀ (n10 : Nat) (v1 : Int) (m2 : mR), (R32 v1) → KTy m2 → fr [] [64] (mO m [] []) m2 → (0 ≤ v1) → (v1 ≤ 12) → (∀ j, 0 ≤ j → j < v1 → (m2.2 64) j = v) → 12 - v1 < (n10 : Int) → TT w D pm_25 (5, [(0, .ref 72), (1, .int (i32 v)), (2, .int (i32 v1)), (3, .int (i32 12))], [], (khp (mO m2 [] []) c, N), 0, 0) (Q_fill_sp_stageMemory m c N v) := by
    intro n10
    induction n10 with
    | zero =>
      intro v1 m2 q7 Tm2 Fm2 ic4 ic5 ic6 hmu
      obtain ⟨q7a, q7b⟩ := id q7
      have hz := ic6
      exfalso
      omega
    | succ n10 ih =>
      intro v1 m2 q7 Tm2 Fm2 ic4 ic5 ic6 hmu
      obtain ⟨q7a, q7b⟩ := id q7
      have hz := ic6
      have ih11 := ih
      refine T_ld 6 (.int (i32 v1)) rfl (fun _ => rfl) ?_
      refine T_ld 7 (.int (i32 12)) rfl (fun _ => rfl) ?_
      refine T_icmp 20 10 rfl rfl rfl (r32 (by omega) (by omega)) ⟨by decide, by decide⟩ (fun (h12 : (12 : Int) ≤ v1) => ?_) (fun (h12 : ¬ ((12 : Int) ≤ v1)) => ?_)
      · skip
        refine T_ret rfl (fun _ => rfl) ?_
        exact ⟨(mO m2 [] []), Tm2, (fr_m (fr_s Fm2 (fr_m fr_0 rfl rfl) rfl rfl) rfl rfl), (show ∀ j, 0 ≤ j → j < 12 → (m2.2 64) j = v by first | (exact fun j a b => hz j a (by omega)) | (exfalso; omega)), rfl⟩
      · skip
        refine T_ld 11 (.ref 72) rfl (fun _ => rfl) ?_
        refine T_ld 12 (.int (i32 v1)) rfl (fun _ => rfl) ?_
        refine T_ld 13 (.int (i32 v)) rfl (fun _ => rfl) ?_
        have G13 : ∀ j, 0 ≤ (upI (m2.2 64) v1 v) j ∧ (upI (m2.2 64) v1 v) j ≤ 60000000 := upI_rg (Tm2.2.1 64) ⟨by omega, by omega⟩
        refine K_iast (a' := [(64, upI (m2.2 64) v1 v)]) 14 64 (m2.2 64) rfl rfl rfl (by omega) (show v1 < (12 : Int) by omega) rfl rfl ?_
        refine T_iinc 17 [(2, .int (i32 (v1 + 1))), (0, .ref 72), (1, .int (i32 v)), (3, .int (i32 12))] rfl rfl (by decide) rfl rfl ?_
        refine T_goto 5 rfl (fun _ => rfl) ?_
        refine Tm_lv (a := [(0, .ref 72), (1, .int (i32 v)), (2, .int (i32 (v1 + 1))), (3, .int (i32 12))]) rfl rfl ⟨rfl, rfl, rfl, rfl, trivial⟩ ?_
        exact ih11 (v1 + 1) (mO m2 [] [(64, upI (m2.2 64) v1 v)]) (r32 (by omega) (by omega)) (KTy_mO Tm2 rfl rfl trivial ⟨G13, trivial⟩) (fr_m (fr_s Fm2 (fr_m fr_0 rfl rfl) rfl rfl) rfl rfl) (show 0 ≤ (v1 + 1) by omega) (show (v1 + 1) ≤ 12 by omega) (show ∀ j, 0 ≤ j → j < (v1 + 1) → (upI (m2.2 64) v1 v) j = v by first | (intro j a b; omega) | (intro j a b; by_cases e : j = v1; (rw [e, upI_s]); (rw [upI_n (by omega)]; exact hz j a (by omega)))) (show 12 - (v1 + 1) < (n10 : Int) by omega)
  refine Tm_lv (a := [(0, .ref 72), (1, .int (i32 v)), (2, .int (i32 0)), (3, .int (i32 12))]) rfl rfl ⟨rfl, rfl, rfl, rfl, trivial⟩ ?_
  exact L5_3 ((12 - (0 : Int) : Int) + 1).toNat 0 (mO m [] []) ⟨by decide, by decide⟩ hT (fr_m fr_0 rfl rfl) (show 0 ≤ (0 : Int) by omega) (show (0 : Int) ≤ 12 by omega) (show ∀ j, 0 ≤ j → j < (0 : Int) → (m.2 64) j = v by first | (intro j a b; omega) | (intro j a b; by_cases e : j = v1; (rw [e, upI_s]); (rw [upI_n (by omega)]; exact hz j a (by omega)))) (show 12 - (0 : Int) < ((((12 - (0 : Int) : Int) + 1).toNat : Nat) : Int) by omega)
def fF_fill_sp_stageWires : List Nat := []
def fA_fill_sp_stageWires : List Nat := [65]
def Q_fill_sp_stageWires (m : mR) (c : Nat → Option am_C) (N : Nat) (v : Int) : ag_Re af_T → Prop := fun R => (∃ (M : mR), KTy M ∧ fr fF_fill_sp_stageWires fA_fill_sp_stageWires m M ∧ (∀ j, 0 ≤ j → j < 12 → (M.2 65) j = v) ∧ R = (.inl (none), (khp M c, N), 0, 0))
set_option maxHeartbeats 3000000 in
theorem c_fill_sp_stageWires (w : wX) (m : mR) (c : Nat → Option am_C) (N D : Nat) (hD : 1 ≤ D) (hT : KTy m) (v : Int) (qv : R32 v) (p0 : 0 ≤ v ∧ v ≤ 0) : TC w D 25 [.ref 73, .int (i32 v)] (khp m c, N) (Q_fill_sp_stageWires m c N v) := by
  obtain ⟨D, rfl⟩ : ∃ k, D = k + 1 := ⟨D - 1, by omega⟩
  obtain ⟨qva, qvb⟩ := id qv
  refine Tc_of rfl ?_
  rw [show (khp m c, N) = (khp (mO m [] []) c, N) from by rw [mO_nil m]]
  show TT w D pm_25 (0, [(0, .ref 73), (1, .int (i32 v))], [], (khp (mO m [] []) c, N), 0, 0) (Q_fill_sp_stageWires m c N v)
  refine T_ld 1 (.int (i32 0)) rfl (fun _ => rfl) ?_
  refine T_sto 2 [(2, .int (i32 0)), (0, .ref 73), (1, .int (i32 v))] rfl (fun _ => rfl) ?_
  refine T_ld 3 (.ref 73) rfl (fun _ => rfl) ?_
  refine T_ld1 4 (.int (i32 12)) rfl (fun _ => rfl) ?_
  refine T_sto 5 [(3, .int (i32 12)), (2, .int (i32 0)), (0, .ref 73), (1, .int (i32 v))] rfl (fun _ => rfl) ?_
  have L5_3 : ∀ (n10 : Nat) (v1 : Int) (m2 : mR), (R32 v1) → KTy m2 → fr [] [65] (mO m [] []) m2 → (0 ≤ v1) → (v1 ≤ 12) → (∀ j, 0 ≤ j → j < v1 → (m2.2 65) j = v) → 12 - v1 < (n10 : Int) → TT w D pm_25 (5, [(0, .ref 73), (1, .int (i32 v)), (2, .int (i32 v1)), (3, .int (i32 12))], [], (khp (mO m2 [] []) c, N), 0, 0) (Q_fill_sp_stageWires m c N v) := by
    intro n10
    induction n10 with
    | zero =>
      intro v1 m2 q7 Tm2 Fm2 ic4 ic5 ic6 hmu
      obtain ⟨q7a, q7b⟩ := id q7
      have hz := ic6
      exfalso
      omega
    | succ n10 ih =>
      intro v1 m2 q7 Tm2 Fm2 ic4 ic5 ic6 hmu
      obtain ⟨q7a, q7b⟩ := id q7
      have hz := ic6
      have ih11 := ih
      refine T_ld 6 (.int (i32 v1)) rfl (fun _ => rfl) ?_
      refine T_ld 7 (.int (i32 12)) rfl (fun _ => rfl) ?_
      refine T_icmp 20 10 rfl rfl rfl (r32 (by omega) (by omega)) ⟨by decide, by decide⟩ (fun (h12 : (12 : Int) ≤ v1) => ?_) (fun (h12 : ¬ ((12 : Int) ≤ v1)) => ?_)
      · skip
        refine T_ret rfl (fun _ => rfl) ?_
        exact ⟨(mO m2 [] []), Tm2, (fr_m (fr_s Fm2 (fr_m fr_0 rfl rfl) rfl rfl) rfl rfl), (show ∀ j, 0 ≤ j → j < 12 → (m2.2 65) j = v by first | (exact fun j a b => hz j a (by omega)) | (exfalso; omega)), rfl⟩
      · skip
        refine T_ld 11 (.ref 73) rfl (fun _ => rfl) ?_
        refine T_ld 12 (.int (i32 v1)) rfl (fun _ => rfl) ?_
        refine T_ld 13 (.int (i32 v)) rfl (fun _ => rfl) ?_
        have G13 : ∀ j, 0 ≤ (upI (m2.2 65) v1 v) j ∧ (upI (m2.2 65) v1 v) j ≤ 200000 := upI_rg (Tm2.2.1 65) ⟨by omega, by omega⟩
        refine K_iast (a' := [(65, upI (m2.2 65) v1 v)]) 14 65 (m2.2 65) rfl rfl rfl (by omega) (show v1 < (12 : Int) by omega) rfl rfl ?_
        refine T_iinc 17 [(2, .int (i32 (v1 + 1))), (0, .ref 73), (1, .int (i32 v)), (3, .int (i32 12))] rfl rfl (by decide) rfl rfl ?_
        refine T_goto 5 rfl (fun _ => rfl) ?_
        refine Tm_lv (a := [(0, .ref 73), (1, .int (i32 v)), (2, .int (i32 (v1 + 1))), (3, .int (i32 12))]) rfl rfl ⟨rfl, rfl, rfl, rfl, trivial⟩ ?_
        exact ih11 (v1 + 1) (mO m2 [] [(65, upI (m2.2 65) v1 v)]) (r32 (by omega) (by omega)) (KTy_mO Tm2 rfl rfl trivial ⟨G13, trivial⟩) (fr_m (fr_s Fm2 (fr_m fr_0 rfl rfl) rfl rfl) rfl rfl) (show 0 ≤ (v1 + 1) by omega) (show (v1 + 1) ≤ 12 by omega) (show ∀ j, 0 ≤ j → j < (v1 + 1) → (upI (m2.2 65) v1 v) j = v by first | (intro j a b; omega) | (intro j a b; by_cases e : j = v1; (rw [e, upI_s]); (rw [upI_n (by omega)]; exact hz j a (by omega)))) (show 12 - (v1 + 1) < (n10 : Int) by omega)
  refine Tm_lv (a := [(0, .ref 73), (1, .int (i32 v)), (2, .int (i32 0)), (3, .int (i32 12))]) rfl rfl ⟨rfl, rfl, rfl, rfl, trivial⟩ ?_
  exact L5_3 ((12 - (0 : Int) : Int) + 1).toNat 0 (mO m [] []) ⟨by decide, by decide⟩ hT (fr_m fr_0 rfl rfl) (show 0 ≤ (0 : Int) by omega) (show (0 : Int) ≤ 12 by omega) (show ∀ j, 0 ≤ j → j < (0 : Int) → (m.2 65) j = v by first | (intro j a b; omega) | (intro j a b; by_cases e : j = v1; (rw [e, upI_s]); (rw [upI_n (by omega)]; exact hz j a (by omega)))) (show 12 - (0 : Int) < ((((12 - (0 : Int) : Int) + 1).toNat : Nat) : Int) by omega)
def fF_fill_pi_words : List Nat := []
def fA_fill_pi_words : List Nat := [71]
def Q_fill_pi_words (m : mR) (c : Nat → Option am_C) (N : Nat) (v : Int) : ag_Re af_T → Prop := fun R => (∃ (M : mR), KTy M ∧ fr fF_fill_pi_words fA_fill_pi_words m M ∧ R = (.inl (none), (khp M c, N), 0, 0))
set_option maxHeartbeats 3000000 in
theorem c_fill_pi_words (w : wX) (m : mR) (c : Nat → Option am_C) (N D : Nat) (hD : 1 ≤ D) (hT : KTy m) (v : Int) (qv : R64 v) : TC w D 46 [.ref 188, .long (i64 v)] (khp m c, N) (Q_fill_pi_words m c N v) := by
  obtain ⟨D, rfl⟩ : ∃ k, D = k + 1 := ⟨D - 1, by omega⟩
  obtain ⟨qva, qvb⟩ := id qv
  refine Tc_of rfl ?_
  rw [show (khp m c, N) = (khp (mO m [] []) c, N) from by rw [mO_nil m]]
  show TT w D pm_46 (0, [(0, .ref 188), (1, .long (i64 v))], [], (khp (mO m [] []) c, N), 0, 0) (Q_fill_pi_words m c N v)
  refine T_ld 1 (.int (i32 0)) rfl (fun _ => rfl) ?_
  refine T_sto 2 [(3, .int (i32 0)), (0, .ref 188), (1, .long (i64 v))] rfl (fun _ => rfl) ?_
  refine T_ld 3 (.ref 188) rfl (fun _ => rfl) ?_
  refine T_ld1 4 (.int (i32 512)) rfl (fun _ => rfl) ?_
  refine T_sto 6 [(4, .int (i32 512)), (3, .int (i32 0)), (0, .ref 188), (1, .long (i64 v))] rfl (fun _ => rfl) ?_
  have L6_3 : ∀ (n9 : Nat) (v1 : Int) (m2 : mR), (R32 v1) → KTy m2 → fr [] [71] (mO m [] []) m2 → (0 ≤ v1) → (v1 ≤ 512) → 512 - v1 < (n9 : Int) → TT w D pm_46 (6, [(0, .ref 188), (1, .long (i64 v)), (3, .int (i32 v1)), (4, .int (i32 512))], [], (khp (mO m2 [] []) c, N), 0, 0) (Q_fill_pi_words m c N v) := by
    intro n9
    induction n9 with
    | zero =>
      intro v1 m2 q6 Tm2 Fm2 ic4 ic5 hmu
      obtain ⟨q6a, q6b⟩ := id q6
      exfalso
      omega
    | succ n9 ih =>
      intro v1 m2 q6 Tm2 Fm2 ic4 ic5 hmu
      obtain ⟨q6a, q6b⟩ := id q6
      have ih10 := ih
      refine T_ld 7 (.int (i32 v1)) rfl (fun _ => rfl) ?_
      refine T_ld 9 (.int (i32 512)) rfl (fun _ => rfl) ?_
      refine T_icmp 22 12 rfl rfl rfl (r32 (by omega) (by omega)) ⟨by decide, by decide⟩ (fun (h11 : (512 : Int) ≤ v1) => ?_) (fun (h11 : ¬ ((512 : Int) ≤ v1)) => ?_)
      · skip
        refine T_ret rfl (fun _ => rfl) ?_
        exact ⟨(mO m2 [] []), Tm2, (fr_m (fr_s Fm2 (fr_m fr_0 rfl rfl) rfl rfl) rfl rfl), rfl⟩
      · skip
        refine T_ld 13 (.ref 188) rfl (fun _ => rfl) ?_
        refine T_ld 14 (.int (i32 v1)) rfl (fun _ => rfl) ?_
        refine T_ld 15 (.long (i64 v)) rfl (fun _ => rfl) ?_
        have G12 : ∀ j, (-9223372036854775808) ≤ (upI (m2.2 71) v1 v) j ∧ (upI (m2.2 71) v1 v) j ≤ 9223372036854775807 := upI_rg (Tm2.2.1 71) ⟨by omega, by omega⟩
        refine K_last (a' := [(71, upI (m2.2 71) v1 v)]) 16 71 (m2.2 71) rfl rfl rfl (by omega) (show v1 < (512 : Int) by omega) rfl rfl ?_
        refine T_iinc 19 [(3, .int (i32 (v1 + 1))), (0, .ref 188), (1, .long (i64 v)), (4, .int (i32 512))] rfl rfl (by decide) rfl rfl ?_
        refine T_goto 6 rfl (fun _ => rfl) ?_
        refine Tm_lv (a := [(0, .ref 188), (1, .long (i64 v)), (3, .int (i32 (v1 + 1))), (4, .int (i32 512))]) rfl rfl ⟨rfl, rfl, rfl, rfl, trivial⟩ ?_
        exact ih10 (v1 + 1) (mO m2 [] [(71, upI (m2.2 71) v1 v)]) (r32 (by omega) (by omega)) (KTy_mO Tm2 rfl rfl trivial ⟨G12, trivial⟩) (fr_m (fr_s Fm2 (fr_m fr_0 rfl rfl) rfl rfl) rfl rfl) (show 0 ≤ (v1 + 1) by omega) (show (v1 + 1) ≤ 512 by omega) (show 512 - (v1 + 1) < (n9 : Int) by omega)
  refine Tm_lv (a := [(0, .ref 188), (1, .long (i64 v)), (3, .int (i32 0)), (4, .int (i32 512))]) rfl rfl ⟨rfl, rfl, rfl, rfl, trivial⟩ ?_
  exact L6_3 ((512 - (0 : Int) : Int) + 1).toNat 0 (mO m [] []) ⟨by decide, by decide⟩ hT (fr_m fr_0 rfl rfl) (show 0 ≤ (0 : Int) by omega) (show (0 : Int) ≤ 512 by omega) (show 512 - (0 : Int) < ((((512 - (0 : Int) : Int) + 1).toNat : Nat) : Int) by omega)
def fF_fill_tb_defaultData : List Nat := []
def fA_fill_tb_defaultData : List Nat := [84]
def Q_fill_tb_defaultData (m : mR) (c : Nat → Option am_C) (N : Nat) (v : Int) (a : Int) : ag_Re af_T → Prop := fun R => (∃ (M : mR), KTy M ∧ fr fF_fill_tb_defaultData fA_fill_tb_defaultData m M ∧ R = (.inl (none), (khp M c, N), 0, 0))
set_option maxHeartbeats 3000000 in
theorem c_fill_tb_defaultData (w : wX) (m : mR) (c : Nat → Option am_C) (N D : Nat) (hD : 1 ≤ D) (hT : KTy m) (v : Int) (a : Int) (qv : R64 v) (qa : R32 a) (p0 : 0 ≤ a ∧ a ≤ 7) : TC w D 46 [.ref (tbr a + (5 + 1)), .long (i64 v)] (khp m c, N) (Q_fill_tb_defaultData m c N v a) := by
  obtain ⟨D, rfl⟩ : ∃ k, D = k + 1 := ⟨D - 1, by omega⟩
  obtain ⟨qva, qvb⟩ := id qv
  obtain ⟨qaa, qab⟩ := id qa
  refine Tc_of rfl ?_
  rw [show (khp m c, N) = (khp (mO m [] []) c, N) from by rw [mO_nil m]]
  show TT w D pm_46 (0, [(0, .ref (tbr a + (5 + 1))), (1, .long (i64 v))], [], (khp (mO m [] []) c, N), 0, 0) (Q_fill_tb_defaultData m c N v a)
  refine T_ld 1 (.int (i32 0)) rfl (fun _ => rfl) ?_
  refine T_sto 2 [(3, .int (i32 0)), (0, .ref (tbr a + (5 + 1))), (1, .long (i64 v))] rfl (fun _ => rfl) ?_
  refine T_ld 3 (.ref (tbr a + (5 + 1))) rfl (fun _ => rfl) ?_
  refine K_alent 4 5 (L := 4) rfl rfl (by omega) (by omega) rfl rfl ?_
  refine T_sto 6 [(4, .int (i32 4)), (3, .int (i32 0)), (0, .ref (tbr a + (5 + 1))), (1, .long (i64 v))] rfl (fun _ => rfl) ?_
  have L6_3 : ∀ (n9 : Nat) (v1 : Int) (m2 : mR), (R32 v1) → KTy m2 → fr [] [84] (mO m [] []) m2 → (0 ≤ v1) → (v1 ≤ 4) → 4 - v1 < (n9 : Int) → TT w D pm_46 (6, [(0, .ref (tbr a + (5 + 1))), (1, .long (i64 v)), (3, .int (i32 v1)), (4, .int (i32 4))], [], (khp (mO m2 [] []) c, N), 0, 0) (Q_fill_tb_defaultData m c N v a) := by
    intro n9
    induction n9 with
    | zero =>
      intro v1 m2 q6 Tm2 Fm2 ic4 ic5 hmu
      obtain ⟨q6a, q6b⟩ := id q6
      exfalso
      omega
    | succ n9 ih =>
      intro v1 m2 q6 Tm2 Fm2 ic4 ic5 hmu
      obtain ⟨q6a, q6b⟩ := id q6
      have ih10 := ih
      refine T_ld 7 (.int (i32 v1)) rfl (fun _ => rfl) ?_
      refine T_ld 9 (.int (i32 4)) rfl (fun _ => rfl) ?_
      refine T_icmp 22 12 rfl rfl rfl (r32 (by omega) (by omega)) ⟨by decide, by decide⟩ (fun (h11 : (4 : Int) ≤ v1) => ?_) (fun (h11 : ¬ ((4 : Int) ≤ v1)) => ?_)
      · skip
        refine T_ret rfl (fun _ => rfl) ?_
        exact ⟨(mO m2 [] []), Tm2, (fr_m (fr_s Fm2 (fr_m fr_0 rfl rfl) rfl rfl) rfl rfl), rfl⟩
      · skip
        refine T_ld 13 (.ref (tbr a + (5 + 1))) rfl (fun _ => rfl) ?_
        refine T_ld 14 (.int (i32 v1)) rfl (fun _ => rfl) ?_
        refine T_ld 15 (.long (i64 v)) rfl (fun _ => rfl) ?_
        have G12 : ∀ j, (-9223372036854775808) ≤ (upI (m2.2 84) (65536 * a + v1) v) j ∧ (upI (m2.2 84) (65536 * a + v1) v) j ≤ 9223372036854775807 := upI_rg (Tm2.2.1 84) ⟨by omega, by omega⟩
        refine K_lastt (a' := [(84, upI (m2.2 84) (65536 * a + v1) v)]) 16 5 (m2.2 84) rfl rfl rfl (by omega) (by omega) (by omega) (show v1 < (4 : Int) by omega) rfl rfl ?_
        refine T_iinc 19 [(3, .int (i32 (v1 + 1))), (0, .ref (tbr a + (5 + 1))), (1, .long (i64 v)), (4, .int (i32 4))] rfl rfl (by decide) rfl rfl ?_
        refine T_goto 6 rfl (fun _ => rfl) ?_
        refine Tm_lv (a := [(0, .ref (tbr a + (5 + 1))), (1, .long (i64 v)), (3, .int (i32 (v1 + 1))), (4, .int (i32 4))]) rfl rfl ⟨rfl, rfl, rfl, rfl, trivial⟩ ?_
        exact ih10 (v1 + 1) (mO m2 [] [(84, upI (m2.2 84) (65536 * a + v1) v)]) (r32 (by omega) (by omega)) (KTy_mO Tm2 rfl rfl trivial ⟨G12, trivial⟩) (fr_m (fr_s Fm2 (fr_m fr_0 rfl rfl) rfl rfl) rfl rfl) (show 0 ≤ (v1 + 1) by omega) (show (v1 + 1) ≤ 4 by omega) (show 4 - (v1 + 1) < (n9 : Int) by omega)
  refine Tm_lv (a := [(0, .ref (tbr a + (5 + 1))), (1, .long (i64 v)), (3, .int (i32 0)), (4, .int (i32 4))]) rfl rfl ⟨rfl, rfl, rfl, rfl, trivial⟩ ?_
  exact L6_3 ((4 - (0 : Int) : Int) + 1).toNat 0 (mO m [] []) ⟨by decide, by decide⟩ hT (fr_m fr_0 rfl rfl) (show 0 ≤ (0 : Int) by omega) (show (0 : Int) ≤ 4 by omega) (show 4 - (0 : Int) < ((((4 - (0 : Int) : Int) + 1).toNat : Nat) : Int) by omega)
def fF_fill_tb_filled : List Nat := []
def fA_fill_tb_filled : List Nat := [90]
def Q_fill_tb_filled (m : mR) (c : Nat → Option am_C) (N : Nat) (v : Int) (a : Int) : ag_Re af_T → Prop := fun R => (∃ (M : mR), KTy M ∧ fr fF_fill_tb_filled fA_fill_tb_filled m M ∧ (∀ j, 0 ≤ j → j < 16 → (M.2 90) (65536 * a + j) = v) ∧ R = (.inl (none), (khp M c, N), 0, 0))
set_option maxHeartbeats 3000000 in
theorem c_fill_tb_filled (w : wX) (m : mR) (c : Nat → Option am_C) (N D : Nat) (hD : 1 ≤ D) (hT : KTy m) (v : Int) (a : Int) (qv : R32 v) (qa : R32 a) (p0 : 0 ≤ v ∧ v ≤ 0) (p1 : 0 ≤ a ∧ a ≤ 7) : TC w D 25 [.ref (tbr a + (11 + 1)), .int (i32 v)] (khp m c, N) (Q_fill_tb_filled m c N v a) := by
  obtain ⟨D, rfl⟩ : ∃ k, D = k + 1 := ⟨D - 1, by omega⟩
  obtain ⟨qva, qvb⟩ := id qv
  obtain ⟨qaa, qab⟩ := id qa
  refine Tc_of rfl ?_
  rw [show (khp m c, N) = (khp (mO m [] []) c, N) from by rw [mO_nil m]]
  show TT w D pm_25 (0, [(0, .ref (tbr a + (11 + 1))), (1, .int (i32 v))], [], (khp (mO m [] []) c, N), 0, 0) (Q_fill_tb_filled m c N v a)
  refine T_ld 1 (.int (i32 0)) rfl (fun _ => rfl) ?_
  refine T_sto 2 [(2, .int (i32 0)), (0, .ref (tbr a + (11 + 1))), (1, .int (i32 v))] rfl (fun _ => rfl) ?_
  refine T_ld 3 (.ref (tbr a + (11 + 1))) rfl (fun _ => rfl) ?_
  refine K_alent 4 11 (L := 16) rfl rfl (by omega) (by omega) rfl rfl ?_
  refine T_sto 5 [(3, .int (i32 16)), (2, .int (i32 0)), (0, .ref (tbr a + (11 + 1))), (1, .int (i32 v))] rfl (fun _ => rfl) ?_
  have L5_3 : ∀ (n10 : Nat) (v1 : Int) (m2 : mR), (R32 v1) → KTy m2 → fr [] [90] (mO m [] []) m2 → (0 ≤ v1) → (v1 ≤ 16) → (∀ j, 0 ≤ j → j < v1 → (m2.2 90) (65536 * a + j) = v) → 16 - v1 < (n10 : Int) → TT w D pm_25 (5, [(0, .ref (tbr a + (11 + 1))), (1, .int (i32 v)), (2, .int (i32 v1)), (3, .int (i32 16))], [], (khp (mO m2 [] []) c, N), 0, 0) (Q_fill_tb_filled m c N v a) := by
    intro n10
    induction n10 with
    | zero =>
      intro v1 m2 q7 Tm2 Fm2 ic4 ic5 ic6 hmu
      obtain ⟨q7a, q7b⟩ := id q7
      have hz := ic6
      exfalso
      omega
    | succ n10 ih =>
      intro v1 m2 q7 Tm2 Fm2 ic4 ic5 ic6 hmu
      obtain ⟨q7a, q7b⟩ := id q7
      have hz := ic6
      have ih11 := ih
      refine T_ld 6 (.int (i32 v1)) rfl (fun _ => rfl) ?_
      refine T_ld 7 (.int (i32 16)) rfl (fun _ => rfl) ?_
      refine T_icmp 20 10 rfl rfl rfl (r32 (by omega) (by omega)) ⟨by decide, by decide⟩ (fun (h12 : (16 : Int) ≤ v1) => ?_) (fun (h12 : ¬ ((16 : Int) ≤ v1)) => ?_)
      · skip
        refine T_ret rfl (fun _ => rfl) ?_
        exact ⟨(mO m2 [] []), Tm2, (fr_m (fr_s Fm2 (fr_m fr_0 rfl rfl) rfl rfl) rfl rfl), (show ∀ j, 0 ≤ j → j < 16 → (m2.2 90) (65536 * a + j) = v by first | (exact fun j a b => hz j a (by omega)) | (exfalso; omega)), rfl⟩
      · skip
        refine T_ld 11 (.ref (tbr a + (11 + 1))) rfl (fun _ => rfl) ?_
        refine T_ld 12 (.int (i32 v1)) rfl (fun _ => rfl) ?_
        refine T_ld 13 (.int (i32 v)) rfl (fun _ => rfl) ?_
        have G13 : ∀ j, 0 ≤ (upI (m2.2 90) (65536 * a + v1) v) j ∧ (upI (m2.2 90) (65536 * a + v1) v) j ≤ 72 := upI_rg (Tm2.2.1 90) ⟨by omega, by omega⟩
        refine K_iastt (a' := [(90, upI (m2.2 90) (65536 * a + v1) v)]) 14 11 (m2.2 90) rfl rfl rfl (by omega) (by omega) (by omega) (show v1 < (16 : Int) by omega) rfl rfl ?_
        refine T_iinc 17 [(2, .int (i32 (v1 + 1))), (0, .ref (tbr a + (11 + 1))), (1, .int (i32 v)), (3, .int (i32 16))] rfl rfl (by decide) rfl rfl ?_
        refine T_goto 5 rfl (fun _ => rfl) ?_
        refine Tm_lv (a := [(0, .ref (tbr a + (11 + 1))), (1, .int (i32 v)), (2, .int (i32 (v1 + 1))), (3, .int (i32 16))]) rfl rfl ⟨rfl, rfl, rfl, rfl, trivial⟩ ?_
        exact ih11 (v1 + 1) (mO m2 [] [(90, upI (m2.2 90) (65536 * a + v1) v)]) (r32 (by omega) (by omega)) (KTy_mO Tm2 rfl rfl trivial ⟨G13, trivial⟩) (fr_m (fr_s Fm2 (fr_m fr_0 rfl rfl) rfl rfl) rfl rfl) (show 0 ≤ (v1 + 1) by omega) (show (v1 + 1) ≤ 16 by omega) (show ∀ j, 0 ≤ j → j < (v1 + 1) → (upI (m2.2 90) (65536 * a + v1) v) (65536 * a + j) = v by first | (intro j a b; omega) | (intro j a b; by_cases e : j = v1; (rw [e, upI_s]); (rw [upI_n (by omega)]; exact hz j a (by omega)))) (show 16 - (v1 + 1) < (n10 : Int) by omega)
  refine Tm_lv (a := [(0, .ref (tbr a + (11 + 1))), (1, .int (i32 v)), (2, .int (i32 0)), (3, .int (i32 16))]) rfl rfl ⟨rfl, rfl, rfl, rfl, trivial⟩ ?_
  exact L5_3 ((16 - (0 : Int) : Int) + 1).toNat 0 (mO m [] []) ⟨by decide, by decide⟩ hT (fr_m fr_0 rfl rfl) (show 0 ≤ (0 : Int) by omega) (show (0 : Int) ≤ 16 by omega) (show ∀ j, 0 ≤ j → j < (0 : Int) → (m.2 90) (65536 * a + j) = v by first | (intro j a b; omega) | (intro j a b; by_cases e : j = v1; (rw [e, upI_s]); (rw [upI_n (by omega)]; exact hz j a (by omega)))) (show 16 - (0 : Int) < ((((16 - (0 : Int) : Int) + 1).toNat : Nat) : Int) by omega)
def fF_tb_clear : List Nat := []
def fA_tb_clear : List Nat := [72, 73, 75, 76, 77, 78, 84]
def Q_tb_clear (m : mR) (c : Nat → Option am_C) (N : Nat) (t : Int) : ag_Re af_T → Prop := fun R => (∃ (M : mR), KTy M ∧ fr fF_tb_clear fA_tb_clear m M ∧ ((M.2 73) = upI (m.2 73) t 0) ∧ (∀ u, u ≠ t → (M.2 78) u = (m.2 78) u) ∧ ((M.2 78) t = 0 ∧ (M.2 72) t = 0 ∧ (M.2 75) t = 1) ∧ R = (.inl (none), (khp M c, N), 0, 0))
set_option maxHeartbeats 3000000 in
theorem c_tb_clear (w : wX) (m : mR) (c : Nat → Option am_C) (N D : Nat) (hD : 2 ≤ D) (hT : KTy m) (t : Int) (qt : R32 t) (p0 : 0 ≤ t ∧ t ≤ 7) : TC w D 128 [.ref (tbr t)] (khp m c, N) (Q_tb_clear m c N t) := by
  obtain ⟨D, rfl⟩ : ∃ k, D = k + 1 := ⟨D - 1, by omega⟩
  obtain ⟨qta, qtb⟩ := id qt
  refine Tc_of rfl ?_
  rw [show (khp m c, N) = (khp (mO m [] []) c, N) from by rw [mO_nil m]]
  show TT w D pm_128 (0, [(0, .ref (tbr t))], [], (khp (mO m [] []) c, N), 0, 0) (Q_tb_clear m c N t)
  refine T_ld 1 (.ref (tbr t)) rfl (fun _ => rfl) ?_
  refine T_ld 2 (.int (i32 0)) rfl (fun _ => rfl) ?_
  have G1 : ∀ j, 0 ≤ (upI (m.2 72) t 0) j ∧ (upI (m.2 72) t 0) j ≤ 4 := upI_rg (hT.2.1 72) ⟨by omega, by omega⟩
  refine K_pfi (a' := [(72, upI (m.2 72) t 0)]) 5 72 (m.2 72) rfl rfl rfl (by omega) (by omega) rfl rfl rfl ?_
  refine T_ld 6 (.ref (tbr t)) rfl (fun _ => rfl) ?_
  refine T_ld 7 (.int (i32 0)) rfl (fun _ => rfl) ?_
  have G2 : ∀ j, 0 ≤ (upI (m.2 73) t 0) j ∧ (upI (m.2 73) t 0) j ≤ 8 := upI_rg (hT.2.1 73) ⟨by omega, by omega⟩
  refine K_pfi (a' := [(72, upI (m.2 72) t 0), (73, upI (m.2 73) t 0)]) 10 73 (m.2 73) rfl rfl rfl (by omega) (by omega) rfl rfl rfl ?_
  refine T_ld 11 (.ref (tbr t)) rfl (fun _ => rfl) ?_
  refine T_ld 12 (.int (i32 1)) rfl (fun _ => rfl) ?_
  have G3 : ∀ j, 0 ≤ (upI (m.2 75) t 1) j ∧ (upI (m.2 75) t 1) j ≤ 32 := upI_rg (hT.2.1 75) ⟨by omega, by omega⟩
  refine K_pfi (a' := [(72, upI (m.2 72) t 0), (73, upI (m.2 73) t 0), (75, upI (m.2 75) t 1)]) 15 75 (m.2 75) rfl rfl rfl (by omega) (by omega) rfl rfl rfl ?_
  refine T_ld 16 (.ref (tbr t)) rfl (fun _ => rfl) ?_
  refine T_ld 17 (.int (i32 0)) rfl (fun _ => rfl) ?_
  have G4 : ∀ j, 0 ≤ (upI (m.2 76) t 0) j ∧ (upI (m.2 76) t 0) j ≤ 4 := upI_rg (hT.2.1 76) ⟨by omega, by omega⟩
  refine K_pfi (a' := [(72, upI (m.2 72) t 0), (73, upI (m.2 73) t 0), (75, upI (m.2 75) t 1), (76, upI (m.2 76) t 0)]) 20 76 (m.2 76) rfl rfl rfl (by omega) (by omega) rfl rfl rfl ?_
  refine T_ld 21 (.ref (tbr t)) rfl (fun _ => rfl) ?_
  refine T_ld 22 (.int (i32 0)) rfl (fun _ => rfl) ?_
  have G5 : ∀ j, 0 ≤ (upI (m.2 77) t 0) j ∧ (upI (m.2 77) t 0) j ≤ 8 := upI_rg (hT.2.1 77) ⟨by omega, by omega⟩
  refine K_pfi (a' := [(72, upI (m.2 72) t 0), (73, upI (m.2 73) t 0), (75, upI (m.2 75) t 1), (76, upI (m.2 76) t 0), (77, upI (m.2 77) t 0)]) 25 77 (m.2 77) rfl rfl rfl (by omega) (by omega) rfl rfl rfl ?_
  refine T_ld 26 (.ref (tbr t)) rfl (fun _ => rfl) ?_
  refine T_ld 27 (.int (i32 0)) rfl (fun _ => rfl) ?_
  have G6 : ∀ j, 0 ≤ (upI (m.2 78) t 0) j ∧ (upI (m.2 78) t 0) j ≤ 72 := upI_rg (hT.2.1 78) ⟨by omega, by omega⟩
  refine K_pfi (a' := [(72, upI (m.2 72) t 0), (73, upI (m.2 73) t 0), (75, upI (m.2 75) t 1), (76, upI (m.2 76) t 0), (77, upI (m.2 77) t 0), (78, upI (m.2 78) t 0)]) 30 78 (m.2 78) rfl rfl rfl (by omega) (by omega) rfl rfl rfl ?_
  refine T_ld 31 (.ref (tbr t)) rfl (fun _ => rfl) ?_
  refine K_gfr 34 rfl rfl (by omega) (by omega) rfl ?_
  refine T_ld 35 (.long (i64 0)) rfl (fun _ => rfl) ?_
  refine T_callx 38 46 [.ref (tbr t + (5 + 1)), .long (i64 0)] [] rfl (fun _ => rfl) rfl rfl (c_fill_tb_defaultData w (mO m [] [(72, upI (m.2 72) t 0), (73, upI (m.2 73) t 0), (75, upI (m.2 75) t 1), (76, upI (m.2 76) t 0), (77, upI (m.2 77) t 0), (78, upI (m.2 78) t 0)]) c N D (by omega) (KTy_mO hT rfl rfl trivial ⟨G1, G2, G3, G4, G5, G6, trivial⟩) 0 t ⟨by decide, by decide⟩ (r32 (by omega) (by omega)) (show 0 ≤ t ∧ t ≤ 7 by omega)) (fun rr7 k8 => ?_)
  obtain ⟨m9, Tm9, Fm9, rfl⟩ := k8
  refine Or.inl ⟨_, _, _, _, rfl, ?_⟩
  refine K_nb (st' := []) rfl ?_
  refine T_ret rfl (fun _ => rfl) ?_
  exact ⟨(mO m9 [] []), Tm9, (fr_m (fr_s Fm9 (fr_m fr_0 rfl rfl) rfl rfl) rfl rfl), (show (m9.2 73) = upI (m.2 73) t 0 by rewrite [(show (m9.2 73) = (upI (m.2 73) t 0) from (fr2 Fm9 73 rfl))]; rfl), (show ∀ u, u ≠ t → (m9.2 78) u = (m.2 78) u by rewrite [(show (m9.2 78) = (upI (m.2 78) t 0) from (fr2 Fm9 78 rfl))]; first | (exact fun u h => upI_n h) | (exfalso; omega)), (show (m9.2 78) t = 0 ∧ (m9.2 72) t = 0 ∧ (m9.2 75) t = 1 by rewrite [(show (m9.2 78) = (upI (m.2 78) t 0) from (fr2 Fm9 78 rfl)), (show (m9.2 72) = (upI (m.2 72) t 0) from (fr2 Fm9 72 rfl)), (show (m9.2 75) = (upI (m.2 75) t 1) from (fr2 Fm9 75 rfl))]; first | (refine ⟨upI_s, upI_s, upI_s⟩) | (exfalso; omega)), rfl⟩
def Q_ss_goalsOf (m : mR) (c : Nat → Option am_C) (N : Nat) (s : Int) : ag_Re af_T → Prop := fun R => (∃ (r : Int), ((-2147483648) ≤ r ∧ r ≤ 2147483647) ∧ R = (.inl (some (.int (i32 r))), (khp m c, N), 0, 0))
set_option maxHeartbeats 3000000 in
theorem c_ss_goalsOf (w : wX) (m : mR) (c : Nat → Option am_C) (N D : Nat) (hD : 1 ≤ D) (hT : KTy m) (s : Int) (qs : R32 s) (p0 : 0 ≤ s ∧ s ≤ 15) : TC w D 147 [.ref 31, .int (i32 s)] (khp m c, N) (Q_ss_goalsOf m c N s) := by
  obtain ⟨D, rfl⟩ : ∃ k, D = k + 1 := ⟨D - 1, by omega⟩
  obtain ⟨qsa, qsb⟩ := id qs
  refine Tc_of rfl ?_
  rw [show (khp m c, N) = (khp (mO m [] []) c, N) from by rw [mO_nil m]]
  show TT w D pm_147 (0, [(0, .ref 31), (1, .int (i32 s))], [], (khp (mO m [] []) c, N), 0, 0) (Q_ss_goalsOf m c N s)
  refine T_ld 1 (.int (i32 1)) rfl (fun _ => rfl) ?_
  refine T_ld 2 (.ref 31) rfl (fun _ => rfl) ?_
  refine K_gf 5 (.ref 40) rfl rfl kd_31 rfl rfl rfl ?_
  refine T_ld 6 (.int (i32 s)) rfl (fun _ => rfl) ?_
  refine K_iald 7 34 (m.2 34) rfl rfl rfl (by omega) (show s < (16 : Int) by omega) rfl ?_
  have e1 : 0 ≤ m.2 34 s ∧ m.2 34 s ≤ 17 := hT.2.1 34 s
  refine T_hv 8 _ rfl (fun _ => rfl) (fun z2 h3 => ?_)
  obtain ⟨h3a, h3b⟩ := h3
  refine T_sto 9 [(2, .int (i32 z2)), (0, .ref 31), (1, .int (i32 s))] rfl (fun _ => rfl) ?_
  refine T_ld 10 (.int (i32 0)) rfl (fun _ => rfl) ?_
  refine T_sto 11 [(3, .int (i32 0)), (2, .int (i32 z2)), (0, .ref 31), (1, .int (i32 s))] rfl (fun _ => rfl) ?_
  have e13 : 0 ≤ m.2 30 s ∧ m.2 30 s ≤ 8 := hT.2.1 30 s
  have L11_6 : ∀ (n12 : Nat) (v4 : Int) (v5 : Int), (R32 v4) → (R32 v5) → (0 ≤ v5) → (v5 ≤ (m.2 30) s) → ((m.2 30) s) - v5 < (n12 : Int) → TT w D pm_147 (11, [(0, .ref 31), (1, .int (i32 s)), (2, .int (i32 v4)), (3, .int (i32 v5))], [], (khp (mO m [] []) c, N), 0, 0) (Q_ss_goalsOf m c N s) := by
    intro n12
    induction n12 with
    | zero =>
      intro v4 v5 q9 q10 ic7 ic8 hmu
      obtain ⟨q9a, q9b⟩ := id q9
      obtain ⟨q10a, q10b⟩ := id q10
      exfalso
      omega
    | succ n12 ih =>
      intro v4 v5 q9 q10 ic7 ic8 hmu
      obtain ⟨q9a, q9b⟩ := id q9
      obtain ⟨q10a, q10b⟩ := id q10
      have ih14 := ih
      refine T_ld 12 (.int (i32 v5)) rfl (fun _ => rfl) ?_
      refine T_ld 13 (.ref 31) rfl (fun _ => rfl) ?_
      refine K_gf 16 (.ref 36) rfl rfl kd_31 rfl rfl rfl ?_
      refine T_ld 17 (.int (i32 s)) rfl (fun _ => rfl) ?_
      refine K_iald 18 30 (m.2 30) rfl rfl rfl (by omega) (show s < (16 : Int) by omega) rfl ?_
      have e15 : 0 ≤ m.2 30 s ∧ m.2 30 s ≤ 8 := hT.2.1 30 s
      refine T_icmp 43 21 rfl rfl rfl (r32 (by omega) (by omega)) (r32 (by omega) (by omega)) (fun (h16 : (m.2 30) s ≤ v5) => ?_) (fun (h16 : ¬ ((m.2 30) s ≤ v5)) => ?_)
      · skip
        refine T_ld 44 (.int (i32 v4)) rfl (fun _ => rfl) ?_
        refine T_ret rfl (fun _ => rfl) ?_
        exact ⟨v4, ⟨by omega, by omega⟩, rfl⟩
      · skip
        refine T_ld 22 (.int (i32 v4)) rfl (fun _ => rfl) ?_
        refine T_ld 23 (.int (i32 1)) rfl (fun _ => rfl) ?_
        refine T_ld 24 (.ref 31) rfl (fun _ => rfl) ?_
        refine K_gf 27 (.ref 39) rfl rfl kd_31 rfl rfl rfl ?_
        refine T_ld 28 (.int (i32 s)) rfl (fun _ => rfl) ?_
        refine T_ld 30 (.int (i32 8)) rfl (fun _ => rfl) ?_
        refine T_imul 31 rfl rfl ?_
        refine T_ld 32 (.int (i32 v5)) rfl (fun _ => rfl) ?_
        refine T_iadd 33 rfl rfl ?_
        refine K_iald 34 33 (m.2 33) rfl rfl rfl (by omega) (show ((s * 8) + v5) < (128 : Int) by omega) rfl ?_
        have e17 : 0 ≤ m.2 33 ((s * 8) + v5) ∧ m.2 33 ((s * 8) + v5) ≤ 17 := hT.2.1 33 ((s * 8) + v5)
        refine T_hv 35 _ rfl (fun _ => rfl) (fun z18 h19 => ?_)
        obtain ⟨h19a, h19b⟩ := h19
        refine T_hv 36 _ rfl (fun _ => rfl) (fun z20 h21 => ?_)
        obtain ⟨h21a, h21b⟩ := h21
        refine T_sto 37 [(2, .int (i32 z20)), (0, .ref 31), (1, .int (i32 s)), (3, .int (i32 v5))] rfl (fun _ => rfl) ?_
        refine T_iinc 40 [(3, .int (i32 (v5 + 1))), (2, .int (i32 z20)), (0, .ref 31), (1, .int (i32 s))] rfl rfl (by decide) rfl rfl ?_
        refine T_goto 11 rfl (fun _ => rfl) ?_
        refine Tm_lv (a := [(0, .ref 31), (1, .int (i32 s)), (2, .int (i32 z20)), (3, .int (i32 (v5 + 1)))]) rfl rfl ⟨rfl, rfl, rfl, rfl, trivial⟩ ?_
        exact ih14 z20 (v5 + 1) (r32 (by omega) (by omega)) (r32 (by omega) (by omega)) (show 0 ≤ (v5 + 1) by omega) (show (v5 + 1) ≤ (m.2 30) s by omega) (show ((m.2 30) s) - (v5 + 1) < (n12 : Int) by omega)
  refine Tm_lv (a := [(0, .ref 31), (1, .int (i32 s)), (2, .int (i32 z2)), (3, .int (i32 0))]) rfl rfl ⟨rfl, rfl, rfl, rfl, trivial⟩ ?_
  exact L11_6 ((((m.2 30) s) - (0 : Int) : Int) + 1).toNat z2 0 (r32 (by omega) (by omega)) ⟨by decide, by decide⟩ (show 0 ≤ (0 : Int) by omega) (show (0 : Int) ≤ (m.2 30) s by omega) (show ((m.2 30) s) - (0 : Int) < ((((((m.2 30) s) - (0 : Int) : Int) + 1).toNat : Nat) : Int) by omega)
def fF_ss_circling : List Nat := []
def fA_ss_circling : List Nat := [38]
def Q_ss_circling (m : mR) (c : Nat → Option am_C) (N : Nat) : ag_Re af_T → Prop := fun R => (∃ (M : mR) (r : Int), KTy M ∧ fr fF_ss_circling fA_ss_circling m M ∧ ((-1) ≤ r ∧ r ≤ 4001) ∧ R = (.inl (some (.int (i32 r))), (khp M c, N), 0, 0))
set_option maxHeartbeats 3000000 in
theorem c_ss_circling (w : wX) (m : mR) (c : Nat → Option am_C) (N D : Nat) (hD : 2 ≤ D) (hT : KTy m) : TC w D 146 [.ref 31] (khp m c, N) (Q_ss_circling m c N) := by
  obtain ⟨D, rfl⟩ : ∃ k, D = k + 1 := ⟨D - 1, by omega⟩
  have f221 : 0 ≤ m.1 221 ∧ m.1 221 ≤ 16 := hT.1 221
  have f222 : 0 ≤ m.1 222 ∧ m.1 222 ≤ 16 := hT.1 222
  refine Tc_of rfl ?_
  rw [show (khp m c, N) = (khp (mO m [] []) c, N) from by rw [mO_nil m]]
  show TT w D pm_146 (0, [(0, .ref 31)], [], (khp (mO m [] []) c, N), 0, 0) (Q_ss_circling m c N)
  refine T_ld 1 (.int (i32 0)) rfl (fun _ => rfl) ?_
  refine T_sto 2 [(1, .int (i32 0)), (0, .ref 31)] rfl (fun _ => rfl) ?_
  have L2_3 : ∀ (n9 : Nat) (v1 : Int) (m2 : mR), (R32 v1) → KTy m2 → fr [] [38] (mO m [] []) m2 → (0 ≤ v1) → (v1 ≤ (m.1 221)) → (m.1 221) - v1 < (n9 : Int) → TT w D pm_146 (2, [(0, .ref 31), (1, .int (i32 v1))], [], (khp (mO m2 [] []) c, N), 0, 0) (Q_ss_circling m c N) := by
    intro n9
    induction n9 with
    | zero =>
      intro v1 m2 q6 Tm2 Fm2 ic4 ic5 hmu
      obtain ⟨q6a, q6b⟩ := id q6
      exfalso
      omega
    | succ n9 ih =>
      intro v1 m2 q6 Tm2 Fm2 ic4 ic5 hmu
      obtain ⟨q6a, q6b⟩ := id q6
      have ih10 := ih
      refine T_ld 3 (.int (i32 v1)) rfl (fun _ => rfl) ?_
      refine T_ld 4 (.ref 31) rfl (fun _ => rfl) ?_
      refine K_gf 7 (.int (i32 (m.1 221))) rfl rfl kd_31 rfl (kval_c2 (k := 221) (F := fun x => .int (i32 x)) rfl (show (m2.1 221) = (m.1 221) from (fr1 Fm2 221 rfl))) rfl ?_
      refine T_icmp 40 10 rfl rfl rfl (r32 (by omega) (by omega)) (r32 (by omega) (by omega)) (fun (h11 : (m.1 221) ≤ v1) => ?_) (fun (h11 : ¬ ((m.1 221) ≤ v1)) => ?_)
      · skip
        refine T_ld 41 (.int (i32 0)) rfl (fun _ => rfl) ?_
        refine T_sto 42 [(1, .int (i32 0)), (0, .ref 31)] rfl (fun _ => rfl) ?_
        have L42_14 : ∀ (n20 : Nat) (v12 : Int) (m13 : mR), (R32 v12) → KTy m13 → fr [] [38] (mO m2 [] []) m13 → (0 ≤ v12) → (v12 ≤ (m.1 221)) → (m.1 221) - v12 < (n20 : Int) → TT w D pm_146 (42, [(0, .ref 31), (1, .int (i32 v12))], [], (khp (mO m13 [] []) c, N), 0, 0) (Q_ss_circling m c N) := by
          intro n20
          induction n20 with
          | zero =>
            intro v12 m13 q17 Tm13 Fm13 ic15 ic16 hmu
            obtain ⟨q17a, q17b⟩ := id q17
            exfalso
            omega
          | succ n20 ih =>
            intro v12 m13 q17 Tm13 Fm13 ic15 ic16 hmu
            obtain ⟨q17a, q17b⟩ := id q17
            have ih21 := ih
            refine T_ld 43 (.int (i32 v12)) rfl (fun _ => rfl) ?_
            refine T_ld 44 (.ref 31) rfl (fun _ => rfl) ?_
            refine K_gf 47 (.int (i32 (m.1 221))) rfl rfl kd_31 rfl (kval_c2 (k := 221) (F := fun x => .int (i32 x)) rfl (show (m13.1 221) = (m.1 221) from ((fr1 Fm13 221 rfl).trans (fr1 Fm2 221 rfl)))) rfl ?_
            refine T_icmp 104 50 rfl rfl rfl (r32 (by omega) (by omega)) (r32 (by omega) (by omega)) (fun (h22 : (m.1 221) ≤ v12) => ?_) (fun (h22 : ¬ ((m.1 221) ≤ v12)) => ?_)
            · skip
              refine T_ld 105 (.int (i32 0)) rfl (fun _ => rfl) ?_
              refine T_sto 106 [(1, .int (i32 0)), (0, .ref 31)] rfl (fun _ => rfl) ?_
              have L106_24 : ∀ (n29 : Nat) (v23 : Int), (R32 v23) → (0 ≤ v23) → (v23 ≤ (m.1 222)) → (m.1 222) - v23 < (n29 : Int) → TT w D pm_146 (106, [(0, .ref 31), (1, .int (i32 v23))], [], (khp (mO m13 [] []) c, N), 0, 0) (Q_ss_circling m c N) := by
                intro n29
                induction n29 with
                | zero =>
                  intro v23 q27 ic25 ic26 hmu
                  obtain ⟨q27a, q27b⟩ := id q27
                  exfalso
                  omega
                | succ n29 ih =>
                  intro v23 q27 ic25 ic26 hmu
                  obtain ⟨q27a, q27b⟩ := id q27
                  have ih30 := ih
                  refine T_ld 107 (.int (i32 v23)) rfl (fun _ => rfl) ?_
                  refine T_ld 108 (.ref 31) rfl (fun _ => rfl) ?_
                  refine K_gf 111 (.int (i32 (m.1 222))) rfl rfl kd_31 rfl (kval_c2 (k := 222) (F := fun x => .int (i32 x)) rfl (show (m13.1 222) = (m.1 222) from ((fr1 Fm13 222 rfl).trans (fr1 Fm2 222 rfl)))) rfl ?_
                  refine T_icmp 155 114 rfl rfl rfl (r32 (by omega) (by omega)) (r32 (by omega) (by omega)) (fun (h31 : (m.1 222) ≤ v23) => ?_) (fun (h31 : ¬ ((m.1 222) ≤ v23)) => ?_)
                  · skip
                    refine T_ld 156 (.int (i32 (-1))) rfl (fun _ => rfl) ?_
                    refine T_ret rfl (fun _ => rfl) ?_
                    exact ⟨(mO m13 [] []), (-1), Tm13, (fr_m (fr_s Fm13 (fr_m (fr_s Fm2 (fr_m fr_0 rfl rfl) rfl rfl) rfl rfl) rfl rfl) rfl rfl), ⟨by omega, by omega⟩, rfl⟩
                  · skip
                    refine T_ld 115 (.ref 31) rfl (fun _ => rfl) ?_
                    refine K_gf 118 (.ref 44) rfl rfl kd_31 rfl rfl rfl ?_
                    refine T_ld 119 (.ref 31) rfl (fun _ => rfl) ?_
                    refine K_gf 122 (.ref 43) rfl rfl kd_31 rfl rfl rfl ?_
                    refine T_ld 123 (.int (i32 v23)) rfl (fun _ => rfl) ?_
                    refine K_iald 124 37 (m.2 37) rfl rfl rfl (by omega) (show v23 < (16 : Int) by omega) (show (m13.2 37) = (m.2 37) from ((fr2 Fm13 37 rfl).trans (fr2 Fm2 37 rfl))) ?_
                    have e32 : 0 ≤ m.2 37 v23 ∧ m.2 37 v23 ≤ 15 := hT.2.1 37 v23
                    refine K_iald 125 38 (m13.2 38) rfl rfl rfl (by omega) (show ((m.2 37) v23) < (16 : Int) by omega) rfl ?_
                    have e33 : (-2147483648) ≤ (m13.2 38) ((m.2 37) v23) ∧ (m13.2 38) ((m.2 37) v23) ≤ 2147483647 := (Tm13.2.1 38) ((m.2 37) v23)
                    refine T_ld 126 (.ref 31) rfl (fun _ => rfl) ?_
                    refine K_gf 129 (.ref 43) rfl rfl kd_31 rfl rfl rfl ?_
                    refine T_ld 130 (.int (i32 v23)) rfl (fun _ => rfl) ?_
                    refine K_iald 131 37 (m.2 37) rfl rfl rfl (by omega) (show v23 < (16 : Int) by omega) (show (m13.2 37) = (m.2 37) from ((fr2 Fm13 37 rfl).trans (fr2 Fm2 37 rfl))) ?_
                    have e34 : 0 ≤ m.2 37 v23 ∧ m.2 37 v23 ≤ 15 := hT.2.1 37 v23
                    refine T_hv 132 _ rfl (fun _ => rfl) (fun z35 h36 => ?_)
                    obtain ⟨h36a, h36b⟩ := h36
                    refine T_ld 133 (.int (i32 1)) rfl (fun _ => rfl) ?_
                    refine T_iand 134 rfl rfl (by decide) (by decide) (fun z37 h38 => ?_)
                    refine T_if 149 137 rfl rfl rfl (r32 (by omega) (by omega)) (fun (h39 : z37 = 0) => ?_) (fun (h39 : ¬ (z37 = 0)) => ?_)
                    · skip
                      refine T_iinc 152 [(1, .int (i32 (v23 + 1))), (0, .ref 31)] rfl rfl (by decide) rfl rfl ?_
                      refine T_goto 106 rfl (fun _ => rfl) ?_
                      refine Tm_lv (a := [(0, .ref 31), (1, .int (i32 (v23 + 1)))]) rfl rfl ⟨rfl, rfl, trivial⟩ ?_
                      exact ih30 (v23 + 1) (r32 (by omega) (by omega)) (show 0 ≤ (v23 + 1) by omega) (show (v23 + 1) ≤ (m.1 222) by omega) (show (m.1 222) - (v23 + 1) < (n29 : Int) by omega)
                    · skip
                      refine T_ld 138 (.ref 31) rfl (fun _ => rfl) ?_
                      refine K_gf 141 (.ref 42) rfl rfl kd_31 rfl rfl rfl ?_
                      refine T_ld 142 (.ref 31) rfl (fun _ => rfl) ?_
                      refine K_gf 145 (.ref 43) rfl rfl kd_31 rfl rfl rfl ?_
                      refine T_ld 146 (.int (i32 v23)) rfl (fun _ => rfl) ?_
                      refine K_iald 147 37 (m.2 37) rfl rfl rfl (by omega) (show v23 < (16 : Int) by omega) (show (m13.2 37) = (m.2 37) from ((fr2 Fm13 37 rfl).trans (fr2 Fm2 37 rfl))) ?_
                      have e40 : 0 ≤ m.2 37 v23 ∧ m.2 37 v23 ≤ 15 := hT.2.1 37 v23
                      refine K_iald 148 36 (m.2 36) rfl rfl rfl (by omega) (show ((m.2 37) v23) < (16 : Int) by omega) (show (m13.2 36) = (m.2 36) from ((fr2 Fm13 36 rfl).trans (fr2 Fm2 36 rfl))) ?_
                      have e41 : (-1) ≤ m.2 36 ((m.2 37) v23) ∧ m.2 36 ((m.2 37) v23) ≤ 4001 := hT.2.1 36 ((m.2 37) v23)
                      refine T_ret rfl (fun _ => rfl) ?_
                      exact ⟨(mO m13 [] []), (m.2 36) ((m.2 37) v23), Tm13, (fr_m (fr_s Fm13 (fr_m (fr_s Fm2 (fr_m fr_0 rfl rfl) rfl rfl) rfl rfl) rfl rfl) rfl rfl), ⟨by omega, by omega⟩, rfl⟩
              refine Tm_lv (a := [(0, .ref 31), (1, .int (i32 0))]) rfl rfl ⟨rfl, rfl, trivial⟩ ?_
              exact L106_24 (((m.1 222) - (0 : Int) : Int) + 1).toNat 0 ⟨by decide, by decide⟩ (show 0 ≤ (0 : Int) by omega) (show (0 : Int) ≤ (m.1 222) by omega) (show (m.1 222) - (0 : Int) < (((((m.1 222) - (0 : Int) : Int) + 1).toNat : Nat) : Int) by omega)
            · skip
              refine T_ld 51 (.int (i32 0)) rfl (fun _ => rfl) ?_
              refine T_sto 52 [(2, .int (i32 0)), (0, .ref 31), (1, .int (i32 v12))] rfl (fun _ => rfl) ?_
              have L52_44 : ∀ (n50 : Nat) (v42 : Int) (m43 : mR), (R32 v42) → KTy m43 → fr [] [38] (mO m13 [] []) m43 → (0 ≤ v42) → (v42 ≤ (m.1 221)) → (m.1 221) - v42 < (n50 : Int) → TT w D pm_146 (52, [(0, .ref 31), (1, .int (i32 v12)), (2, .int (i32 v42))], [], (khp (mO m43 [] []) c, N), 0, 0) (Q_ss_circling m c N) := by
                intro n50
                induction n50 with
                | zero =>
                  intro v42 m43 q47 Tm43 Fm43 ic45 ic46 hmu
                  obtain ⟨q47a, q47b⟩ := id q47
                  exfalso
                  omega
                | succ n50 ih =>
                  intro v42 m43 q47 Tm43 Fm43 ic45 ic46 hmu
                  obtain ⟨q47a, q47b⟩ := id q47
                  have ih51 := ih
                  refine T_ld 53 (.int (i32 v42)) rfl (fun _ => rfl) ?_
                  refine T_ld 54 (.ref 31) rfl (fun _ => rfl) ?_
                  refine K_gf 57 (.int (i32 (m.1 221))) rfl rfl kd_31 rfl (kval_c2 (k := 221) (F := fun x => .int (i32 x)) rfl (show (m43.1 221) = (m.1 221) from ((fr1 Fm43 221 rfl).trans ((fr1 Fm13 221 rfl).trans (fr1 Fm2 221 rfl))))) rfl ?_
                  refine T_icmp 98 60 rfl rfl rfl (r32 (by omega) (by omega)) (r32 (by omega) (by omega)) (fun (h52 : (m.1 221) ≤ v42) => ?_) (fun (h52 : ¬ ((m.1 221) ≤ v42)) => ?_)
                  · skip
                    refine T_iinc 101 [(1, .int (i32 (v12 + 1))), (0, .ref 31), (2, .int (i32 v42))] rfl rfl (by decide) rfl rfl ?_
                    refine T_goto 42 rfl (fun _ => rfl) ?_
                    refine Tm_lv (a := [(0, .ref 31), (1, .int (i32 (v12 + 1)))]) rfl rfl ⟨rfl, rfl, trivial⟩ ?_
                    exact ih21 (v12 + 1) (mO m43 [] []) (r32 (by omega) (by omega)) Tm43 (fr_m (fr_s Fm43 (fr_m (fr_s Fm13 (fr_m fr_0 rfl rfl) rfl rfl) rfl rfl) rfl rfl) rfl rfl) (show 0 ≤ (v12 + 1) by omega) (show (v12 + 1) ≤ (m.1 221) by omega) (show (m.1 221) - (v12 + 1) < (n20 : Int) by omega)
                  · skip
                    refine T_ld 61 (.ref 31) rfl (fun _ => rfl) ?_
                    refine K_gf 64 (.ref 44) rfl rfl kd_31 rfl rfl rfl ?_
                    refine T_ld 65 (.int (i32 v42)) rfl (fun _ => rfl) ?_
                    refine T_dup2 66 rfl (fun _ => rfl) ?_
                    refine K_iald 67 38 (m43.2 38) rfl rfl rfl (by omega) (show v42 < (16 : Int) by omega) rfl ?_
                    have e53 : (-2147483648) ≤ (m43.2 38) v42 ∧ (m43.2 38) v42 ≤ 2147483647 := (Tm43.2.1 38) v42
                    refine T_ld 68 (.ref 31) rfl (fun _ => rfl) ?_
                    refine K_gf 71 (.ref 44) rfl rfl kd_31 rfl rfl rfl ?_
                    refine T_ld 72 (.int (i32 v42)) rfl (fun _ => rfl) ?_
                    refine K_iald 73 38 (m43.2 38) rfl rfl rfl (by omega) (show v42 < (16 : Int) by omega) rfl ?_
                    have e54 : (-2147483648) ≤ (m43.2 38) v42 ∧ (m43.2 38) v42 ≤ 2147483647 := (Tm43.2.1 38) v42
                    refine T_ld 74 (.int (i32 v12)) rfl (fun _ => rfl) ?_
                    refine T_hv 75 _ rfl (fun _ => rfl) (fun z55 h56 => ?_)
                    obtain ⟨h56a, h56b⟩ := h56
                    refine T_ld 76 (.int (i32 1)) rfl (fun _ => rfl) ?_
                    refine T_iand 77 rfl rfl (by decide) (by decide) (fun z57 h58 => ?_)
                    refine T_if 89 80 rfl rfl rfl (r32 (by omega) (by omega)) (fun (h59 : z57 = 0) => ?_) (fun (h59 : ¬ (z57 = 0)) => ?_)
                    · skip
                      refine T_ld 90 (.int (i32 0)) rfl (fun _ => rfl) ?_
                      refine T_hv 91 _ rfl (fun _ => rfl) (fun z60 h61 => ?_)
                      obtain ⟨h61a, h61b⟩ := h61
                      have G62 : ∀ j, (-2147483648) ≤ (upI (m43.2 38) v42 z60) j ∧ (upI (m43.2 38) v42 z60) j ≤ 2147483647 := upI_rg (Tm43.2.1 38) ⟨by omega, by omega⟩
                      refine K_iast (a' := [(38, upI (m43.2 38) v42 z60)]) 92 38 (m43.2 38) rfl rfl rfl (by omega) (show v42 < (16 : Int) by omega) rfl rfl ?_
                      refine T_iinc 95 [(2, .int (i32 (v42 + 1))), (0, .ref 31), (1, .int (i32 v12))] rfl rfl (by decide) rfl rfl ?_
                      refine T_goto 52 rfl (fun _ => rfl) ?_
                      refine Tm_lv (a := [(0, .ref 31), (1, .int (i32 v12)), (2, .int (i32 (v42 + 1)))]) rfl rfl ⟨rfl, rfl, rfl, trivial⟩ ?_
                      exact ih51 (v42 + 1) (mO m43 [] [(38, upI (m43.2 38) v42 z60)]) (r32 (by omega) (by omega)) (KTy_mO Tm43 rfl rfl trivial ⟨G62, trivial⟩) (fr_m (fr_s Fm43 (fr_m fr_0 rfl rfl) rfl rfl) rfl rfl) (show 0 ≤ (v42 + 1) by omega) (show (v42 + 1) ≤ (m.1 221) by omega) (show (m.1 221) - (v42 + 1) < (n50 : Int) by omega)
                    · skip
                      refine T_ld 81 (.ref 31) rfl (fun _ => rfl) ?_
                      refine K_gf 84 (.ref 44) rfl rfl kd_31 rfl rfl rfl ?_
                      refine T_ld 85 (.int (i32 v12)) rfl (fun _ => rfl) ?_
                      refine K_iald 86 38 (m43.2 38) rfl rfl rfl (by omega) (show v12 < (16 : Int) by omega) rfl ?_
                      have e63 : (-2147483648) ≤ (m43.2 38) v12 ∧ (m43.2 38) v12 ≤ 2147483647 := (Tm43.2.1 38) v12
                      refine T_goto 90 rfl (fun _ => rfl) ?_
                      refine T_hv 91 _ rfl (fun _ => rfl) (fun z64 h65 => ?_)
                      obtain ⟨h65a, h65b⟩ := h65
                      have G66 : ∀ j, (-2147483648) ≤ (upI (m43.2 38) v42 z64) j ∧ (upI (m43.2 38) v42 z64) j ≤ 2147483647 := upI_rg (Tm43.2.1 38) ⟨by omega, by omega⟩
                      refine K_iast (a' := [(38, upI (m43.2 38) v42 z64)]) 92 38 (m43.2 38) rfl rfl rfl (by omega) (show v42 < (16 : Int) by omega) rfl rfl ?_
                      refine T_iinc 95 [(2, .int (i32 (v42 + 1))), (0, .ref 31), (1, .int (i32 v12))] rfl rfl (by decide) rfl rfl ?_
                      refine T_goto 52 rfl (fun _ => rfl) ?_
                      refine Tm_lv (a := [(0, .ref 31), (1, .int (i32 v12)), (2, .int (i32 (v42 + 1)))]) rfl rfl ⟨rfl, rfl, rfl, trivial⟩ ?_
                      exact ih51 (v42 + 1) (mO m43 [] [(38, upI (m43.2 38) v42 z64)]) (r32 (by omega) (by omega)) (KTy_mO Tm43 rfl rfl trivial ⟨G66, trivial⟩) (fr_m (fr_s Fm43 (fr_m fr_0 rfl rfl) rfl rfl) rfl rfl) (show 0 ≤ (v42 + 1) by omega) (show (v42 + 1) ≤ (m.1 221) by omega) (show (m.1 221) - (v42 + 1) < (n50 : Int) by omega)
              refine Tm_lv (a := [(0, .ref 31), (1, .int (i32 v12)), (2, .int (i32 0))]) rfl rfl ⟨rfl, rfl, rfl, trivial⟩ ?_
              exact L52_44 (((m.1 221) - (0 : Int) : Int) + 1).toNat 0 (mO m13 [] []) ⟨by decide, by decide⟩ Tm13 (fr_m fr_0 rfl rfl) (show 0 ≤ (0 : Int) by omega) (show (0 : Int) ≤ (m.1 221) by omega) (show (m.1 221) - (0 : Int) < (((((m.1 221) - (0 : Int) : Int) + 1).toNat : Nat) : Int) by omega)
        refine Tm_lv (a := [(0, .ref 31), (1, .int (i32 0))]) rfl rfl ⟨rfl, rfl, trivial⟩ ?_
        exact L42_14 (((m.1 221) - (0 : Int) : Int) + 1).toNat 0 (mO m2 [] []) ⟨by decide, by decide⟩ Tm2 (fr_m fr_0 rfl rfl) (show 0 ≤ (0 : Int) by omega) (show (0 : Int) ≤ (m.1 221) by omega) (show (m.1 221) - (0 : Int) < (((((m.1 221) - (0 : Int) : Int) + 1).toNat : Nat) : Int) by omega)
      · skip
        refine T_ld 11 (.ref 31) rfl (fun _ => rfl) ?_
        refine K_gf 14 (.ref 44) rfl rfl kd_31 rfl rfl rfl ?_
        refine T_ld 15 (.int (i32 v1)) rfl (fun _ => rfl) ?_
        refine T_ld 16 (.ref 31) rfl (fun _ => rfl) ?_
        refine K_gf 19 (.ref 32) rfl rfl kd_31 rfl rfl rfl ?_
        refine T_ld 20 (.int (i32 v1)) rfl (fun _ => rfl) ?_
        refine K_iald 21 26 (m.2 26) rfl rfl rfl (by omega) (show v1 < (16 : Int) by omega) (show (m2.2 26) = (m.2 26) from (fr2 Fm2 26 rfl)) ?_
        have e67 : 0 ≤ m.2 26 v1 ∧ m.2 26 v1 ≤ 6 := hT.2.1 26 v1
        refine T_if 28 24 rfl rfl rfl (r32 (by omega) (by omega)) (fun (h68 : (m.2 26) v1 ≤ 0) => ?_) (fun (h68 : ¬ ((m.2 26) v1 ≤ 0)) => ?_)
        · skip
          refine T_ld 29 (.ref 31) rfl (fun _ => rfl) ?_
          refine T_ld 30 (.int (i32 v1)) rfl (fun _ => rfl) ?_
          refine T_callx 33 147 [.ref 31, .int (i32 v1)] [.int (i32 v1), .ref 44] rfl (fun _ => rfl) rfl rfl (c_ss_goalsOf w (mO m2 [] []) c N D (by omega) Tm2 v1 (r32 (by omega) (by omega)) (show 0 ≤ v1 ∧ v1 ≤ 15 by omega)) (fun rr69 k70 => ?_)
          obtain ⟨x71, g72, rfl⟩ := k70
          refine Or.inl ⟨_, _, _, _, rfl, ?_⟩
          refine T_ns (st' := [.int (i32 x71), .int (i32 v1), .ref 44]) rfl ?_
          obtain ⟨g72a, g72b⟩ := g72
          have G73 : ∀ j, (-2147483648) ≤ (upI (m2.2 38) v1 x71) j ∧ (upI (m2.2 38) v1 x71) j ≤ 2147483647 := upI_rg (Tm2.2.1 38) ⟨by omega, by omega⟩
          refine K_iast (a' := [(38, upI (m2.2 38) v1 x71)]) 34 38 (m2.2 38) rfl rfl rfl (by omega) (show v1 < (16 : Int) by omega) rfl rfl ?_
          refine T_iinc 37 [(1, .int (i32 (v1 + 1))), (0, .ref 31)] rfl rfl (by decide) rfl rfl ?_
          refine T_goto 2 rfl (fun _ => rfl) ?_
          refine Tm_lv (a := [(0, .ref 31), (1, .int (i32 (v1 + 1)))]) rfl rfl ⟨rfl, rfl, trivial⟩ ?_
          exact ih10 (v1 + 1) (mO m2 [] [(38, upI (m2.2 38) v1 x71)]) (r32 (by omega) (by omega)) (KTy_mO Tm2 rfl rfl trivial ⟨G73, trivial⟩) (fr_m (fr_s Fm2 (fr_m fr_0 rfl rfl) rfl rfl) rfl rfl) (show 0 ≤ (v1 + 1) by omega) (show (v1 + 1) ≤ (m.1 221) by omega) (show (m.1 221) - (v1 + 1) < (n9 : Int) by omega)
        · skip
          refine T_ld 25 (.int (i32 0)) rfl (fun _ => rfl) ?_
          refine T_goto 33 rfl (fun _ => rfl) ?_
          have G74 : ∀ j, (-2147483648) ≤ (upI (m2.2 38) v1 0) j ∧ (upI (m2.2 38) v1 0) j ≤ 2147483647 := upI_rg (Tm2.2.1 38) ⟨by omega, by omega⟩
          refine K_iast (a' := [(38, upI (m2.2 38) v1 0)]) 34 38 (m2.2 38) rfl rfl rfl (by omega) (show v1 < (16 : Int) by omega) rfl rfl ?_
          refine T_iinc 37 [(1, .int (i32 (v1 + 1))), (0, .ref 31)] rfl rfl (by decide) rfl rfl ?_
          refine T_goto 2 rfl (fun _ => rfl) ?_
          refine Tm_lv (a := [(0, .ref 31), (1, .int (i32 (v1 + 1)))]) rfl rfl ⟨rfl, rfl, trivial⟩ ?_
          exact ih10 (v1 + 1) (mO m2 [] [(38, upI (m2.2 38) v1 0)]) (r32 (by omega) (by omega)) (KTy_mO Tm2 rfl rfl trivial ⟨G74, trivial⟩) (fr_m (fr_s Fm2 (fr_m fr_0 rfl rfl) rfl rfl) rfl rfl) (show 0 ≤ (v1 + 1) by omega) (show (v1 + 1) ≤ (m.1 221) by omega) (show (m.1 221) - (v1 + 1) < (n9 : Int) by omega)
  refine Tm_lv (a := [(0, .ref 31), (1, .int (i32 0))]) rfl rfl ⟨rfl, rfl, trivial⟩ ?_
  exact L2_3 (((m.1 221) - (0 : Int) : Int) + 1).toNat 0 (mO m [] []) ⟨by decide, by decide⟩ hT (fr_m fr_0 rfl rfl) (show 0 ≤ (0 : Int) by omega) (show (0 : Int) ≤ (m.1 221) by omega) (show (m.1 221) - (0 : Int) < (((((m.1 221) - (0 : Int) : Int) + 1).toNat : Nat) : Int) by omega)
def fF_ac_addDeed : List Nat := [224]
def fA_ac_addDeed : List Nat := [45, 46, 47, 49, 51]
def Q_ac_addDeed (m : mR) (c : Nat → Option am_C) (N : Nat) (k : Int) : ag_Re af_T → Prop := fun R => (∃ (M : mR) (r : Int), KTy M ∧ fr fF_ac_addDeed fA_ac_addDeed m M ∧ (0 ≤ r ∧ r ≤ 239) ∧ (r = (m.1 224)) ∧ ((M.1 224) = (m.1 224) + 1) ∧ ((M.2 45) = upI (m.2 45) (m.1 224) k) ∧ ((M.2 46) = upI (m.2 46) (m.1 224) (-1)) ∧ ((M.2 47) = upI (m.2 47) (m.1 224) (-1)) ∧ ((M.2 49) = upI (m.2 49) (m.1 224) (-1)) ∧ R = (.inl (some (.int (i32 r))), (khp M c, N), 0, 0))
set_option maxHeartbeats 3000000 in
theorem c_ac_addDeed (w : wX) (m : mR) (c : Nat → Option am_C) (N D : Nat) (hD : 1 ≤ D) (hT : KTy m) (k : Int) (qk : R32 k) (p0 : (m.1 224) ≤ 239) (p1 : 0 ≤ k ∧ k ≤ 330) : TC w D 123 [.ref 45, .int (i32 k)] (khp m c, N) (Q_ac_addDeed m c N k) := by
  obtain ⟨D, rfl⟩ : ∃ k, D = k + 1 := ⟨D - 1, by omega⟩
  obtain ⟨qka, qkb⟩ := id qk
  have f224 : 0 ≤ m.1 224 ∧ m.1 224 ≤ 240 := hT.1 224
  refine Tc_of rfl ?_
  rw [show (khp m c, N) = (khp (mO m [] []) c, N) from by rw [mO_nil m]]
  show TT w D pm_123 (0, [(0, .ref 45), (1, .int (i32 k))], [], (khp (mO m [] []) c, N), 0, 0) (Q_ac_addDeed m c N k)
  refine T_ld 1 (.ref 45) rfl (fun _ => rfl) ?_
  refine K_gf 4 (.int (i32 (m.1 224))) rfl rfl kd_45 rfl rfl rfl ?_
  refine T_sto 5 [(2, .int (i32 (m.1 224))), (0, .ref 45), (1, .int (i32 k))] rfl (fun _ => rfl) ?_
  refine T_ld 6 (.ref 45) rfl (fun _ => rfl) ?_
  refine K_gf 9 (.ref 52) rfl rfl kd_45 rfl rfl rfl ?_
  refine T_ld 10 (.int (i32 (m.1 224))) rfl (fun _ => rfl) ?_
  refine T_ld 11 (.int (i32 k)) rfl (fun _ => rfl) ?_
  have G1 : ∀ j, 0 ≤ (upI (m.2 45) (m.1 224) k) j ∧ (upI (m.2 45) (m.1 224) k) j ≤ 330 := upI_rg (hT.2.1 45) ⟨by omega, by omega⟩
  refine K_iast (a' := [(45, upI (m.2 45) (m.1 224) k)]) 12 45 (m.2 45) rfl rfl rfl (by omega) (show (m.1 224) < (240 : Int) by omega) rfl rfl ?_
  refine T_ld 13 (.ref 45) rfl (fun _ => rfl) ?_
  refine K_gf 16 (.ref 53) rfl rfl kd_45 rfl rfl rfl ?_
  refine T_ld 17 (.int (i32 (m.1 224))) rfl (fun _ => rfl) ?_
  refine T_ld 18 (.int (i32 (-1))) rfl (fun _ => rfl) ?_
  have G2 : ∀ j, (-1) ≤ (upI (m.2 46) (m.1 224) (-1)) j ∧ (upI (m.2 46) (m.1 224) (-1)) j ≤ 220 := upI_rg (hT.2.1 46) ⟨by omega, by omega⟩
  refine K_iast (a' := [(45, upI (m.2 45) (m.1 224) k), (46, upI (m.2 46) (m.1 224) (-1))]) 19 46 (m.2 46) rfl rfl rfl (by omega) (show (m.1 224) < (240 : Int) by omega) rfl rfl ?_
  refine T_ld 20 (.ref 45) rfl (fun _ => rfl) ?_
  refine K_gf 23 (.ref 54) rfl rfl kd_45 rfl rfl rfl ?_
  refine T_ld 24 (.int (i32 (m.1 224))) rfl (fun _ => rfl) ?_
  refine T_ld 25 (.int (i32 (-1))) rfl (fun _ => rfl) ?_
  have G3 : ∀ j, (-1) ≤ (upI (m.2 47) (m.1 224) (-1)) j ∧ (upI (m.2 47) (m.1 224) (-1)) j ≤ 7 := upI_rg (hT.2.1 47) ⟨by omega, by omega⟩
  refine K_iast (a' := [(45, upI (m.2 45) (m.1 224) k), (46, upI (m.2 46) (m.1 224) (-1)), (47, upI (m.2 47) (m.1 224) (-1))]) 26 47 (m.2 47) rfl rfl rfl (by omega) (show (m.1 224) < (240 : Int) by omega) rfl rfl ?_
  refine T_ld 27 (.ref 45) rfl (fun _ => rfl) ?_
  refine K_gf 30 (.ref 56) rfl rfl kd_45 rfl rfl rfl ?_
  refine T_ld 31 (.int (i32 (m.1 224))) rfl (fun _ => rfl) ?_
  refine T_ld 32 (.int (i32 (-1))) rfl (fun _ => rfl) ?_
  have G4 : ∀ j, (-1) ≤ (upI (m.2 49) (m.1 224) (-1)) j ∧ (upI (m.2 49) (m.1 224) (-1)) j ≤ 1089 := upI_rg (hT.2.1 49) ⟨by omega, by omega⟩
  refine K_iast (a' := [(45, upI (m.2 45) (m.1 224) k), (46, upI (m.2 46) (m.1 224) (-1)), (47, upI (m.2 47) (m.1 224) (-1)), (49, upI (m.2 49) (m.1 224) (-1))]) 33 49 (m.2 49) rfl rfl rfl (by omega) (show (m.1 224) < (240 : Int) by omega) rfl rfl ?_
  refine T_ld 34 (.ref 45) rfl (fun _ => rfl) ?_
  refine K_gf 37 (.ref 58) rfl rfl kd_45 rfl rfl rfl ?_
  refine T_ld 38 (.int (i32 (m.1 224))) rfl (fun _ => rfl) ?_
  refine T_ld 39 (.int (i32 (-1))) rfl (fun _ => rfl) ?_
  have G5 : ∀ j, (-1) ≤ (upI (m.2 51) (m.1 224) (-1)) j ∧ (upI (m.2 51) (m.1 224) (-1)) j ≤ 1089 := upI_rg (hT.2.1 51) ⟨by omega, by omega⟩
  refine K_iast (a' := [(45, upI (m.2 45) (m.1 224) k), (46, upI (m.2 46) (m.1 224) (-1)), (47, upI (m.2 47) (m.1 224) (-1)), (49, upI (m.2 49) (m.1 224) (-1)), (51, upI (m.2 51) (m.1 224) (-1))]) 40 51 (m.2 51) rfl rfl rfl (by omega) (show (m.1 224) < (240 : Int) by omega) rfl rfl ?_
  refine T_ld 41 (.ref 45) rfl (fun _ => rfl) ?_
  refine T_ld 42 (.ref 45) rfl (fun _ => rfl) ?_
  refine K_gf 45 (.int (i32 (m.1 224))) rfl rfl kd_45 rfl rfl rfl ?_
  refine T_ld 46 (.int (i32 1)) rfl (fun _ => rfl) ?_
  refine T_iadd 47 rfl rfl ?_
  refine K_pf (l' := [(224, (m.1 224) + 1)]) 50 ((m.1 224) + 1) rfl rfl kd_45 rfl rfl rfl rfl rfl rfl rfl ?_
  have g6 : 0 ≤ (m.1 224) + 1 ∧ (m.1 224) + 1 ≤ 240 := ⟨by omega, by omega⟩
  refine T_ld 51 (.int (i32 (m.1 224))) rfl (fun _ => rfl) ?_
  refine T_ret rfl (fun _ => rfl) ?_
  exact ⟨(mO m [(224, (m.1 224) + 1)] [(45, upI (m.2 45) (m.1 224) k), (46, upI (m.2 46) (m.1 224) (-1)), (47, upI (m.2 47) (m.1 224) (-1)), (49, upI (m.2 49) (m.1 224) (-1)), (51, upI (m.2 51) (m.1 224) (-1))]), (m.1 224), (KTy_mO hT rfl rfl ⟨g6, trivial⟩ ⟨G1, G2, G3, G4, G5, trivial⟩), (fr_m fr_0 rfl rfl), ⟨by omega, by omega⟩, (show (m.1 224) = (m.1 224) by omega), (show ((m.1 224) + 1) = (m.1 224) + 1 by omega), (show (upI (m.2 45) (m.1 224) k) = upI (m.2 45) (m.1 224) k by rfl), (show (upI (m.2 46) (m.1 224) (-1)) = upI (m.2 46) (m.1 224) (-1) by rfl), (show (upI (m.2 47) (m.1 224) (-1)) = upI (m.2 47) (m.1 224) (-1) by rfl), (show (upI (m.2 49) (m.1 224) (-1)) = upI (m.2 49) (m.1 224) (-1) by rfl), rfl⟩
def Q_ac_parameterOf (m : mR) (c : Nat → Option am_C) (N : Nat) (a : Int) (x : Int) (y : Int) : ag_Re af_T → Prop := fun R => (∃ (r : Int), ((-1) ≤ r ∧ r ≤ 3) ∧ (r = -1 ∨ 0 ≤ a) ∧ R = (.inl (some (.int (i32 r))), (khp m c, N), 0, 0))
set_option maxHeartbeats 3000000 in
theorem c_ac_parameterOf (w : wX) (m : mR) (c : Nat → Option am_C) (N D : Nat) (hD : 1 ≤ D) (hT : KTy m) (a : Int) (x : Int) (y : Int) (qa : R32 a) (qx : R64 x) (qy : R64 y) (p0 : (-1) ≤ a ∧ a ≤ 15) : TC w D 98 [.ref 45, .int (i32 a), .long (i64 x), .long (i64 y)] (khp m c, N) (Q_ac_parameterOf m c N a x y) := by
  obtain ⟨D, rfl⟩ : ∃ k, D = k + 1 := ⟨D - 1, by omega⟩
  obtain ⟨qaa, qab⟩ := id qa
  obtain ⟨qxa, qxb⟩ := id qx
  obtain ⟨qya, qyb⟩ := id qy
  refine Tc_of rfl ?_
  rw [show (khp m c, N) = (khp (mO m [] []) c, N) from by rw [mO_nil m]]
  show TT w D pm_98 (0, [(0, .ref 45), (1, .int (i32 a)), (2, .long (i64 x)), (4, .long (i64 y))], [], (khp (mO m [] []) c, N), 0, 0) (Q_ac_parameterOf m c N a x y)
  refine T_ld 1 (.int (i32 0)) rfl (fun _ => rfl) ?_
  refine T_sto 3 [(6, .int (i32 0)), (0, .ref 45), (1, .int (i32 a)), (2, .long (i64 x)), (4, .long (i64 y))] rfl (fun _ => rfl) ?_
  have L3_2 : ∀ (n7 : Nat) (v1 : Int), (R32 v1) → (0 ≤ v1) → (0 ≤ v1 ∧ v1 ≤ 4) → 10 - v1 < (n7 : Int) → TT w D pm_98 (3, [(0, .ref 45), (1, .int (i32 a)), (2, .long (i64 x)), (4, .long (i64 y)), (6, .int (i32 v1))], [], (khp (mO m [] []) c, N), 0, 0) (Q_ac_parameterOf m c N a x y) := by
    intro n7
    induction n7 with
    | zero =>
      intro v1 q5 ic3 ic4 hmu
      obtain ⟨q5a, q5b⟩ := id q5
      exfalso
      omega
    | succ n7 ih =>
      intro v1 q5 ic3 ic4 hmu
      obtain ⟨q5a, q5b⟩ := id q5
      have ih8 := ih
      refine T_ld 4 (.int (i32 a)) rfl (fun _ => rfl) ?_
      refine T_ld 5 (.int (i32 (-1))) rfl (fun _ => rfl) ?_
      refine T_icmp 61 8 rfl rfl rfl (r32 (by omega) (by omega)) ⟨by decide, by decide⟩ (fun (h9 : a = (-1)) => ?_) (fun (h9 : ¬ (a = (-1))) => ?_)
      · skip
        refine T_ld 62 (.int (i32 (-1))) rfl (fun _ => rfl) ?_
        refine T_ret rfl (fun _ => rfl) ?_
        exact ⟨(-1), ⟨by omega, by omega⟩, (show (-1 : Int) = -1 ∨ 0 ≤ a by omega), rfl⟩
      · skip
        refine T_ld 10 (.int (i32 v1)) rfl (fun _ => rfl) ?_
        refine T_ld 11 (.ref 45) rfl (fun _ => rfl) ?_
        refine K_gf 14 (.ref 46) rfl rfl kd_45 rfl rfl rfl ?_
        refine T_ld 15 (.int (i32 a)) rfl (fun _ => rfl) ?_
        refine K_iald 16 39 (m.2 39) rfl rfl rfl (by omega) (show a < (16 : Int) by omega) rfl ?_
        have e10 : 0 ≤ m.2 39 a ∧ m.2 39 a ≤ 4 := hT.2.1 39 a
        refine T_icmp 61 19 rfl rfl rfl (r32 (by omega) (by omega)) (r32 (by omega) (by omega)) (fun (h11 : (m.2 39) a ≤ v1) => ?_) (fun (h11 : ¬ ((m.2 39) a ≤ v1)) => ?_)
        · skip
          refine T_ld 62 (.int (i32 (-1))) rfl (fun _ => rfl) ?_
          refine T_ret rfl (fun _ => rfl) ?_
          exact ⟨(-1), ⟨by omega, by omega⟩, (show (-1 : Int) = -1 ∨ 0 ≤ a by omega), rfl⟩
        · skip
          refine T_ld 20 (.int (i32 a)) rfl (fun _ => rfl) ?_
          refine T_ld 21 (.int (i32 4)) rfl (fun _ => rfl) ?_
          refine T_imul 22 rfl rfl ?_
          refine T_ld 24 (.int (i32 v1)) rfl (fun _ => rfl) ?_
          refine T_iadd 25 rfl rfl ?_
          refine T_sto 27 [(7, .int (i32 ((a * 4) + v1))), (0, .ref 45), (1, .int (i32 a)), (2, .long (i64 x)), (4, .long (i64 y)), (6, .int (i32 v1))] rfl (fun _ => rfl) ?_
          refine T_ld 28 (.ref 45) rfl (fun _ => rfl) ?_
          refine K_gf 31 (.ref 48) rfl rfl kd_45 rfl rfl rfl ?_
          refine T_ld 33 (.int (i32 ((a * 4) + v1))) rfl (fun _ => rfl) ?_
          refine K_lald 34 41 (m.2 41) rfl rfl rfl (by omega) (show ((a * 4) + v1) < (64 : Int) by omega) rfl ?_
          have e12 : (-9223372036854775808) ≤ m.2 41 ((a * 4) + v1) ∧ m.2 41 ((a * 4) + v1) ≤ 9223372036854775807 := hT.2.1 41 ((a * 4) + v1)
          refine T_ld 35 (.long (i64 x)) rfl (fun _ => rfl) ?_
          refine T_lcmp 36 rfl rfl (r64 (by omega) (by omega)) (r64 (by omega) (by omega)) (fun z13 h14 => ?_)
          obtain ⟨h14a, h14b, h14c, h14d, h14e⟩ := h14
          refine T_if 55 39 rfl rfl rfl (r32 (by omega) (by omega)) (fun (h15 : z13 ≠ 0) => ?_) (fun (h15 : ¬ (z13 ≠ 0)) => ?_)
          · skip
            have hl16 : (m.2 41) ((a * 4) + v1) ≠ x := by omega
            refine T_iinc 58 [(6, .int (i32 (v1 + 1))), (7, .int (i32 ((a * 4) + v1))), (0, .ref 45), (1, .int (i32 a)), (2, .long (i64 x)), (4, .long (i64 y))] rfl rfl (by decide) rfl rfl ?_
            refine T_goto 3 rfl (fun _ => rfl) ?_
            refine Tm_lv (a := [(0, .ref 45), (1, .int (i32 a)), (2, .long (i64 x)), (4, .long (i64 y)), (6, .int (i32 (v1 + 1)))]) rfl rfl ⟨rfl, rfl, rfl, rfl, rfl, trivial⟩ ?_
            exact ih8 (v1 + 1) (r32 (by omega) (by omega)) (show 0 ≤ (v1 + 1) by omega) (show 0 ≤ (v1 + 1) ∧ (v1 + 1) ≤ 4 by omega) (show 10 - (v1 + 1) < (n7 : Int) by omega)
          · skip
            have hl17 : (m.2 41) ((a * 4) + v1) = x := by omega
            refine T_ld 40 (.ref 45) rfl (fun _ => rfl) ?_
            refine K_gf 43 (.ref 49) rfl rfl kd_45 rfl rfl rfl ?_
            refine T_ld 45 (.int (i32 ((a * 4) + v1))) rfl (fun _ => rfl) ?_
            refine K_lald 46 42 (m.2 42) rfl rfl rfl (by omega) (show ((a * 4) + v1) < (64 : Int) by omega) rfl ?_
            have e18 : (-9223372036854775808) ≤ m.2 42 ((a * 4) + v1) ∧ m.2 42 ((a * 4) + v1) ≤ 9223372036854775807 := hT.2.1 42 ((a * 4) + v1)
            refine T_ld 48 (.long (i64 y)) rfl (fun _ => rfl) ?_
            refine T_lcmp 49 rfl rfl (r64 (by omega) (by omega)) (r64 (by omega) (by omega)) (fun z19 h20 => ?_)
            obtain ⟨h20a, h20b, h20c, h20d, h20e⟩ := h20
            refine T_if 55 52 rfl rfl rfl (r32 (by omega) (by omega)) (fun (h21 : z19 ≠ 0) => ?_) (fun (h21 : ¬ (z19 ≠ 0)) => ?_)
            · skip
              have hl22 : (m.2 42) ((a * 4) + v1) ≠ y := by omega
              refine T_iinc 58 [(6, .int (i32 (v1 + 1))), (7, .int (i32 ((a * 4) + v1))), (0, .ref 45), (1, .int (i32 a)), (2, .long (i64 x)), (4, .long (i64 y))] rfl rfl (by decide) rfl rfl ?_
              refine T_goto 3 rfl (fun _ => rfl) ?_
              refine Tm_lv (a := [(0, .ref 45), (1, .int (i32 a)), (2, .long (i64 x)), (4, .long (i64 y)), (6, .int (i32 (v1 + 1)))]) rfl rfl ⟨rfl, rfl, rfl, rfl, rfl, trivial⟩ ?_
              exact ih8 (v1 + 1) (r32 (by omega) (by omega)) (show 0 ≤ (v1 + 1) by omega) (show 0 ≤ (v1 + 1) ∧ (v1 + 1) ≤ 4 by omega) (show 10 - (v1 + 1) < (n7 : Int) by omega)
            · skip
              have hl23 : (m.2 42) ((a * 4) + v1) = y := by omega
              refine T_ld 54 (.int (i32 v1)) rfl (fun _ => rfl) ?_
              refine T_ret rfl (fun _ => rfl) ?_
              exact ⟨v1, ⟨by omega, by omega⟩, (show v1 = -1 ∨ 0 ≤ a by omega), rfl⟩
  refine Tm_lv (a := [(0, .ref 45), (1, .int (i32 a)), (2, .long (i64 x)), (4, .long (i64 y)), (6, .int (i32 0))]) rfl rfl ⟨rfl, rfl, rfl, rfl, rfl, trivial⟩ ?_
  exact L3_2 ((10 - (0 : Int) : Int) + 1).toNat 0 ⟨by decide, by decide⟩ (show 0 ≤ (0 : Int) by omega) (show 0 ≤ (0 : Int) ∧ (0 : Int) ≤ 4 by omega) (show 10 - (0 : Int) < ((((10 - (0 : Int) : Int) + 1).toNat : Nat) : Int) by omega)
def Q_ac_parameterBits (m : mR) (c : Nat → Option am_C) (N : Nat) (a : Int) : ag_Re af_T → Prop := fun R => (∃ (r : Int), (0 ≤ r ∧ r ≤ 256) ∧ R = (.inl (some (.int (i32 r))), (khp m c, N), 0, 0))
set_option maxHeartbeats 3000000 in
theorem c_ac_parameterBits (w : wX) (m : mR) (c : Nat → Option am_C) (N D : Nat) (hD : 1 ≤ D) (hT : KTy m) (a : Int) (qa : R32 a) (p0 : 0 ≤ a ∧ a ≤ 15) : TC w D 157 [.ref 45, .int (i32 a)] (khp m c, N) (Q_ac_parameterBits m c N a) := by
  obtain ⟨D, rfl⟩ : ∃ k, D = k + 1 := ⟨D - 1, by omega⟩
  obtain ⟨qaa, qab⟩ := id qa
  refine Tc_of rfl ?_
  rw [show (khp m c, N) = (khp (mO m [] []) c, N) from by rw [mO_nil m]]
  show TT w D pm_157 (0, [(0, .ref 45), (1, .int (i32 a))], [], (khp (mO m [] []) c, N), 0, 0) (Q_ac_parameterBits m c N a)
  refine T_ld 1 (.int (i32 0)) rfl (fun _ => rfl) ?_
  refine T_sto 2 [(2, .int (i32 0)), (0, .ref 45), (1, .int (i32 a))] rfl (fun _ => rfl) ?_
  refine T_ld 3 (.int (i32 0)) rfl (fun _ => rfl) ?_
  refine T_sto 4 [(3, .int (i32 0)), (2, .int (i32 0)), (0, .ref 45), (1, .int (i32 a))] rfl (fun _ => rfl) ?_
  have e12 : 0 ≤ m.2 39 a ∧ m.2 39 a ≤ 4 := hT.2.1 39 a
  have L4_3 : ∀ (n11 : Nat) (v1 : Int) (v2 : Int), (R32 v1) → (R32 v2) → (0 ≤ v1) → (0 ≤ v2) → (v2 ≤ (m.2 39) a) → (0 ≤ v1 ∧ v1 ≤ 64 * v2) → ((m.2 39) a) - v2 < (n11 : Int) → TT w D pm_157 (4, [(0, .ref 45), (1, .int (i32 a)), (2, .int (i32 v1)), (3, .int (i32 v2))], [], (khp (mO m [] []) c, N), 0, 0) (Q_ac_parameterBits m c N a) := by
    intro n11
    induction n11 with
    | zero =>
      intro v1 v2 q8 q9 ic4 ic5 ic6 ic7 hmu
      obtain ⟨q8a, q8b⟩ := id q8
      obtain ⟨q9a, q9b⟩ := id q9
      exfalso
      omega
    | succ n11 ih =>
      intro v1 v2 q8 q9 ic4 ic5 ic6 ic7 hmu
      obtain ⟨q8a, q8b⟩ := id q8
      obtain ⟨q9a, q9b⟩ := id q9
      have ih13 := ih
      refine T_ld 5 (.int (i32 v2)) rfl (fun _ => rfl) ?_
      refine T_ld 6 (.ref 45) rfl (fun _ => rfl) ?_
      refine K_gf 9 (.ref 46) rfl rfl kd_45 rfl rfl rfl ?_
      refine T_ld 10 (.int (i32 a)) rfl (fun _ => rfl) ?_
      refine K_iald 11 39 (m.2 39) rfl rfl rfl (by omega) (show a < (16 : Int) by omega) rfl ?_
      have e14 : 0 ≤ m.2 39 a ∧ m.2 39 a ≤ 4 := hT.2.1 39 a
      refine T_icmp 33 14 rfl rfl rfl (r32 (by omega) (by omega)) (r32 (by omega) (by omega)) (fun (h15 : (m.2 39) a ≤ v2) => ?_) (fun (h15 : ¬ ((m.2 39) a ≤ v2)) => ?_)
      · skip
        refine T_ld 34 (.int (i32 v1)) rfl (fun _ => rfl) ?_
        refine T_ret rfl (fun _ => rfl) ?_
        exact ⟨v1, ⟨by omega, by omega⟩, rfl⟩
      · skip
        refine T_ld 15 (.int (i32 v1)) rfl (fun _ => rfl) ?_
        refine T_ld 16 (.ref 45) rfl (fun _ => rfl) ?_
        refine K_gf 19 (.ref 47) rfl rfl kd_45 rfl rfl rfl ?_
        refine T_ld 20 (.int (i32 a)) rfl (fun _ => rfl) ?_
        refine T_ld 21 (.int (i32 4)) rfl (fun _ => rfl) ?_
        refine T_imul 22 rfl rfl ?_
        refine T_ld 23 (.int (i32 v2)) rfl (fun _ => rfl) ?_
        refine T_iadd 24 rfl rfl ?_
        refine K_iald 25 40 (m.2 40) rfl rfl rfl (by omega) (show ((a * 4) + v2) < (64 : Int) by omega) rfl ?_
        have e16 : 0 ≤ m.2 40 ((a * 4) + v2) ∧ m.2 40 ((a * 4) + v2) ≤ 64 := hT.2.1 40 ((a * 4) + v2)
        refine T_iadd 26 rfl rfl ?_
        refine T_sto 27 [(2, .int (i32 (v1 + ((m.2 40) ((a * 4) + v2))))), (0, .ref 45), (1, .int (i32 a)), (3, .int (i32 v2))] rfl (fun _ => rfl) ?_
        refine T_iinc 30 [(3, .int (i32 (v2 + 1))), (2, .int (i32 (v1 + ((m.2 40) ((a * 4) + v2))))), (0, .ref 45), (1, .int (i32 a))] rfl rfl (by decide) rfl rfl ?_
        refine T_goto 4 rfl (fun _ => rfl) ?_
        refine Tm_lv (a := [(0, .ref 45), (1, .int (i32 a)), (2, .int (i32 (v1 + ((m.2 40) ((a * 4) + v2))))), (3, .int (i32 (v2 + 1)))]) rfl rfl ⟨rfl, rfl, rfl, rfl, trivial⟩ ?_
        exact ih13 (v1 + ((m.2 40) ((a * 4) + v2))) (v2 + 1) (r32 (by omega) (by omega)) (r32 (by omega) (by omega)) (show 0 ≤ (v1 + ((m.2 40) ((a * 4) + v2))) by omega) (show 0 ≤ (v2 + 1) by omega) (show (v2 + 1) ≤ (m.2 39) a by omega) (show 0 ≤ (v1 + ((m.2 40) ((a * 4) + v2))) ∧ (v1 + ((m.2 40) ((a * 4) + v2))) ≤ 64 * (v2 + 1) by omega) (show ((m.2 39) a) - (v2 + 1) < (n11 : Int) by omega)
  refine Tm_lv (a := [(0, .ref 45), (1, .int (i32 a)), (2, .int (i32 0)), (3, .int (i32 0))]) rfl rfl ⟨rfl, rfl, rfl, rfl, trivial⟩ ?_
  exact L4_3 ((((m.2 39) a) - (0 : Int) : Int) + 1).toNat 0 0 ⟨by decide, by decide⟩ ⟨by decide, by decide⟩ (show 0 ≤ (0 : Int) by omega) (show 0 ≤ (0 : Int) by omega) (show (0 : Int) ≤ (m.2 39) a by omega) (show 0 ≤ (0 : Int) ∧ (0 : Int) ≤ 64 * (0 : Int) by omega) (show ((m.2 39) a) - (0 : Int) < ((((((m.2 39) a) - (0 : Int) : Int) + 1).toNat : Nat) : Int) by omega)
def Q_tb_memory (m : mR) (c : Nat → Option am_C) (N : Nat) (t : Int) : ag_Re af_T → Prop := fun R => (∃ (r : Int), (0 ≤ r ∧ r ≤ 1200000) ∧ R = (.inl (some (.int (i32 r))), (khp m c, N), 0, 0))
set_option maxHeartbeats 3000000 in
theorem c_tb_memory (w : wX) (m : mR) (c : Nat → Option am_C) (N D : Nat) (hD : 2 ≤ D) (hT : KTy m) (t : Int) (qt : R32 t) (p0 : 0 ≤ t ∧ t ≤ 7) : TC w D 156 [.ref (tbr t), .ref 45] (khp m c, N) (Q_tb_memory m c N t) := by
  obtain ⟨D, rfl⟩ : ∃ k, D = k + 1 := ⟨D - 1, by omega⟩
  obtain ⟨qta, qtb⟩ := id qt
  refine Tc_of rfl ?_
  rw [show (khp m c, N) = (khp (mO m [] []) c, N) from by rw [mO_nil m]]
  show TT w D pm_156 (0, [(0, .ref (tbr t)), (1, .ref 45)], [], (khp (mO m [] []) c, N), 0, 0) (Q_tb_memory m c N t)
  refine T_ld 1 (.int (i32 0)) rfl (fun _ => rfl) ?_
  refine T_sto 2 [(2, .int (i32 0)), (0, .ref (tbr t)), (1, .ref 45)] rfl (fun _ => rfl) ?_
  refine T_ld 3 (.int (i32 0)) rfl (fun _ => rfl) ?_
  refine T_sto 4 [(3, .int (i32 0)), (2, .int (i32 0)), (0, .ref (tbr t)), (1, .ref 45)] rfl (fun _ => rfl) ?_
  have e11 : 0 ≤ m.2 73 t ∧ m.2 73 t ≤ 8 := hT.2.1 73 t
  have L4_3 : ∀ (n10 : Nat) (v1 : Int) (v2 : Int), (R32 v1) → (R32 v2) → (0 ≤ v2) → (v2 ≤ (m.2 73) t) → (0 ≤ v1 ∧ v1 ≤ 256) → ((m.2 73) t) - v2 < (n10 : Int) → TT w D pm_156 (4, [(0, .ref (tbr t)), (1, .ref 45), (2, .int (i32 v1)), (3, .int (i32 v2))], [], (khp (mO m [] []) c, N), 0, 0) (Q_tb_memory m c N t) := by
    intro n10
    induction n10 with
    | zero =>
      intro v1 v2 q7 q8 ic4 ic5 ic6 hmu
      obtain ⟨q7a, q7b⟩ := id q7
      obtain ⟨q8a, q8b⟩ := id q8
      exfalso
      omega
    | succ n10 ih =>
      intro v1 v2 q7 q8 ic4 ic5 ic6 hmu
      obtain ⟨q7a, q7b⟩ := id q7
      obtain ⟨q8a, q8b⟩ := id q8
      have ih12 := ih
      refine T_ld 5 (.int (i32 v2)) rfl (fun _ => rfl) ?_
      refine T_ld 6 (.ref (tbr t)) rfl (fun _ => rfl) ?_
      refine K_gfi 9 73 (m.2 73) rfl rfl (by omega) (by omega) rfl rfl ?_
      have e13 : 0 ≤ m.2 73 t ∧ m.2 73 t ≤ 8 := hT.2.1 73 t
      refine T_icmp 33 12 rfl rfl rfl (r32 (by omega) (by omega)) (r32 (by omega) (by omega)) (fun (h14 : (m.2 73) t ≤ v2) => ?_) (fun (h14 : ¬ ((m.2 73) t ≤ v2)) => ?_)
      · skip
        refine T_ld 34 (.ref (tbr t)) rfl (fun _ => rfl) ?_
        refine T_callx 37 135 [.ref (tbr t)] [] rfl (inv_vt (args := []) (khp_t0 _ (by omega) (by omega)) rfl rfl rfl) rfl rfl (c_tb_isHashed w (mO m [] []) c N D (by omega) hT t (r32 (by omega) (by omega)) (show 0 ≤ t ∧ t ≤ 7 by omega)) (fun rr15 k16 => ?_)
        obtain ⟨x17, g18, rfl⟩ := k16
        refine Or.inl ⟨_, _, _, _, rfl, ?_⟩
        refine T_ns (st' := [.int (i32 x17)]) rfl ?_
        obtain ⟨g18a, g18b⟩ := g18
        refine T_sto 38 [(3, .int (i32 x17)), (0, .ref (tbr t)), (1, .ref 45), (2, .int (i32 v1))] rfl (fun _ => rfl) ?_
        refine T_ld 39 (.int (i32 x17)) rfl (fun _ => rfl) ?_
        refine T_if 59 42 rfl rfl rfl (r32 (by omega) (by omega)) (fun (h19 : x17 = 0) => ?_) (fun (h19 : ¬ (x17 = 0)) => ?_)
        · skip
          refine T_ld 60 (.ref (tbr t)) rfl (fun _ => rfl) ?_
          refine K_gfi 63 75 (m.2 75) rfl rfl (by omega) (by omega) rfl rfl ?_
          have e20 : 0 ≤ m.2 75 t ∧ m.2 75 t ≤ 32 := hT.2.1 75 t
          refine T_sto 65 [(4, .int (i32 ((m.2 75) t))), (3, .int (i32 x17)), (0, .ref (tbr t)), (1, .ref 45), (2, .int (i32 v1))] rfl (fun _ => rfl) ?_
          refine T_ld 66 (.int (i32 x17)) rfl (fun _ => rfl) ?_
          refine T_if 76 69 rfl rfl rfl (r32 (by omega) (by omega)) (fun (h21 : x17 = 0) => ?_) (fun (h21 : ¬ (x17 = 0)) => by exfalso; omega)
          refine T_ld 77 (.int (i32 2)) rfl (fun _ => rfl) ?_
          refine T_ld 78 (.ref (tbr t)) rfl (fun _ => rfl) ?_
          refine T_callx 81 158 [.ref (tbr t)] [.int (i32 2)] rfl (inv_vt (args := []) (khp_t0 _ (by omega) (by omega)) rfl rfl rfl) rfl rfl (c_tb_wires w (mO m [] []) c N D (by omega) hT t (r32 (by omega) (by omega)) (show 0 ≤ t ∧ t ≤ 7 by omega)) (fun rr22 k23 => ?_)
          obtain ⟨x24, g25, rfl⟩ := k23
          refine Or.inl ⟨_, _, _, _, rfl, ?_⟩
          refine T_ns (st' := [.int (i32 x24), .int (i32 2)]) rfl ?_
          obtain ⟨g25a, g25b⟩ := g25
          refine T_imul 82 rfl rfl ?_
          refine T_sto 84 [(5, .int (i32 (2 * x24))), (4, .int (i32 ((m.2 75) t))), (3, .int (i32 x17)), (0, .ref (tbr t)), (1, .ref 45), (2, .int (i32 v1))] rfl (fun _ => rfl) ?_
          refine T_ld 86 (.int (i32 ((m.2 75) t))) rfl (fun _ => rfl) ?_
          refine T_ld 88 (.int (i32 (2 * x24))) rfl (fun _ => rfl) ?_
          refine T_ld 89 (.int (i32 v1)) rfl (fun _ => rfl) ?_
          refine T_iadd 90 rfl rfl ?_
          refine T_ld 92 (.int (i32 8)) rfl (fun _ => rfl) ?_
          refine T_iadd 93 rfl rfl ?_
          refine T_imul 94 rfl rfl ?_
          have hm2 : 0 ≤ (((m.2 75) t) * (((2 * x24) + v1) + 8)) ∧ (((m.2 75) t) * (((2 * x24) + v1) + 8)) ≤ 1200000 := mul_rg (u := 136) (v := 8456) (by omega) (by omega) (by omega) (by omega) (by omega)
          refine T_ret rfl (fun _ => rfl) ?_
          exact ⟨((m.2 75) t) * (((2 * x24) + v1) + 8), ⟨by omega, by omega⟩, rfl⟩
        · skip
          refine T_ld 43 (.ref (tbr t)) rfl (fun _ => rfl) ?_
          refine K_gfi 46 75 (m.2 75) rfl rfl (by omega) (by omega) rfl rfl ?_
          have e26 : 0 ≤ m.2 75 t ∧ m.2 75 t ≤ 32 := hT.2.1 75 t
          refine T_ld 47 (.ref (tbr t)) rfl (fun _ => rfl) ?_
          refine K_gfi 50 76 (m.2 76) rfl rfl (by omega) (by omega) rfl rfl ?_
          have e27 : 0 ≤ m.2 76 t ∧ m.2 76 t ≤ 4 := hT.2.1 76 t
          refine T_imul 51 rfl rfl ?_
          have hm : 0 ≤ ((m.2 75) t) * ((m.2 76) t) ∧ ((m.2 75) t) * ((m.2 76) t) ≤ 128 := mul_rg (u := 32) (v := 4) (by omega) (by omega) (by omega) (by omega) (by omega)
          refine T_ld 52 (.ref (tbr t)) rfl (fun _ => rfl) ?_
          refine K_gfi 55 77 (m.2 77) rfl rfl (by omega) (by omega) rfl rfl ?_
          have e28 : 0 ≤ m.2 77 t ∧ m.2 77 t ≤ 8 := hT.2.1 77 t
          refine T_iadd 56 rfl rfl ?_
          refine T_goto 63 rfl (fun _ => rfl) ?_
          refine T_sto 65 [(4, .int (i32 ((((m.2 75) t) * ((m.2 76) t)) + ((m.2 77) t)))), (3, .int (i32 x17)), (0, .ref (tbr t)), (1, .ref 45), (2, .int (i32 v1))] rfl (fun _ => rfl) ?_
          refine T_ld 66 (.int (i32 x17)) rfl (fun _ => rfl) ?_
          refine T_if 76 69 rfl rfl rfl (r32 (by omega) (by omega)) (fun (h29 : x17 = 0) => by exfalso; omega) (fun (h29 : ¬ (x17 = 0)) => ?_)
          refine T_ld 70 (.ref (tbr t)) rfl (fun _ => rfl) ?_
          refine T_callx 73 158 [.ref (tbr t)] [] rfl (inv_vt (args := []) (khp_t0 _ (by omega) (by omega)) rfl rfl rfl) rfl rfl (c_tb_wires w (mO m [] []) c N D (by omega) hT t (r32 (by omega) (by omega)) (show 0 ≤ t ∧ t ≤ 7 by omega)) (fun rr30 k31 => ?_)
          obtain ⟨x32, g33, rfl⟩ := k31
          refine Or.inl ⟨_, _, _, _, rfl, ?_⟩
          refine T_ns (st' := [.int (i32 x32)]) rfl ?_
          obtain ⟨g33a, g33b⟩ := g33
          refine T_goto 82 rfl (fun _ => rfl) ?_
          refine T_sto 84 [(5, .int (i32 x32)), (4, .int (i32 ((((m.2 75) t) * ((m.2 76) t)) + ((m.2 77) t)))), (3, .int (i32 x17)), (0, .ref (tbr t)), (1, .ref 45), (2, .int (i32 v1))] rfl (fun _ => rfl) ?_
          refine T_ld 86 (.int (i32 ((((m.2 75) t) * ((m.2 76) t)) + ((m.2 77) t)))) rfl (fun _ => rfl) ?_
          refine T_ld 88 (.int (i32 x32)) rfl (fun _ => rfl) ?_
          refine T_ld 89 (.int (i32 v1)) rfl (fun _ => rfl) ?_
          refine T_iadd 90 rfl rfl ?_
          refine T_ld 92 (.int (i32 8)) rfl (fun _ => rfl) ?_
          refine T_iadd 93 rfl rfl ?_
          refine T_imul 94 rfl rfl ?_
          have hm2 : 0 ≤ (((((m.2 75) t) * ((m.2 76) t)) + ((m.2 77) t)) * ((x32 + v1) + 8)) ∧ (((((m.2 75) t) * ((m.2 76) t)) + ((m.2 77) t)) * ((x32 + v1) + 8)) ≤ 1200000 := mul_rg (u := 136) (v := 8456) (by omega) (by omega) (by omega) (by omega) (by omega)
          refine T_ret rfl (fun _ => rfl) ?_
          exact ⟨((((m.2 75) t) * ((m.2 76) t)) + ((m.2 77) t)) * ((x32 + v1) + 8), ⟨by omega, by omega⟩, rfl⟩
      · skip
        refine T_ld 13 (.int (i32 v1)) rfl (fun _ => rfl) ?_
        refine T_ld 14 (.ref 45) rfl (fun _ => rfl) ?_
        refine T_ld 15 (.ref (tbr t)) rfl (fun _ => rfl) ?_
        refine K_gfr 18 rfl rfl (by omega) (by omega) rfl ?_
        refine T_ld 19 (.int (i32 v2)) rfl (fun _ => rfl) ?_
        refine K_ialt 20 4 (m.2 83) rfl rfl rfl (by omega) (by omega) (by omega) (show v2 < (8 : Int) by omega) rfl ?_
        have e34 : 0 ≤ m.2 83 (65536 * t + v2) ∧ m.2 83 (65536 * t + v2) ≤ 15 := hT.2.1 83 (65536 * t + v2)
        refine T_callx 23 157 [.ref 45, .int (i32 ((m.2 83) (65536 * t + v2)))] [.int (i32 v1)] rfl (fun _ => rfl) rfl rfl (c_ac_parameterBits w (mO m [] []) c N D (by omega) hT ((m.2 83) (65536 * t + v2)) (r32 (by omega) (by omega)) (show 0 ≤ ((m.2 83) (65536 * t + v2)) ∧ ((m.2 83) (65536 * t + v2)) ≤ 15 by omega)) (fun rr35 k36 => ?_)
        obtain ⟨x37, g38, rfl⟩ := k36
        refine Or.inl ⟨_, _, _, _, rfl, ?_⟩
        refine T_ns (st' := [.int (i32 x37), .int (i32 v1)]) rfl ?_
        obtain ⟨g38a, g38b⟩ := g38
        refine T_callx 26 61 [.int (i32 v1), .int (i32 x37)] [] rfl (fun _ => rfl) rfl rfl (c_Math_max w (mO m [] []) c N D (by omega) hT v1 x37 (r32 (by omega) (by omega)) (r32 (by omega) (by omega))) (fun rr39 k40 => ?_)
        obtain ⟨x41, g42, h43, h44, rfl⟩ := k40
        refine Or.inl ⟨_, _, _, _, rfl, ?_⟩
        refine T_ns (st' := [.int (i32 x41)]) rfl ?_
        obtain ⟨g42a, g42b⟩ := g42
        replace h43 : x41 = v1 ∨ x41 = x37 := h43
        replace h44 : v1 ≤ x41 ∧ x37 ≤ x41 := h44
        refine T_sto 27 [(2, .int (i32 x41)), (0, .ref (tbr t)), (1, .ref 45), (3, .int (i32 v2))] rfl (fun _ => rfl) ?_
        refine T_iinc 30 [(3, .int (i32 (v2 + 1))), (2, .int (i32 x41)), (0, .ref (tbr t)), (1, .ref 45)] rfl rfl (by decide) rfl rfl ?_
        refine T_goto 4 rfl (fun _ => rfl) ?_
        refine Tm_lv (a := [(0, .ref (tbr t)), (1, .ref 45), (2, .int (i32 x41)), (3, .int (i32 (v2 + 1)))]) rfl rfl ⟨rfl, rfl, rfl, rfl, trivial⟩ ?_
        exact ih12 x41 (v2 + 1) (r32 (by omega) (by omega)) (r32 (by omega) (by omega)) (show 0 ≤ (v2 + 1) by omega) (show (v2 + 1) ≤ (m.2 73) t by omega) (show 0 ≤ x41 ∧ x41 ≤ 256 by omega) (show ((m.2 73) t) - (v2 + 1) < (n10 : Int) by omega)
  refine Tm_lv (a := [(0, .ref (tbr t)), (1, .ref 45), (2, .int (i32 0)), (3, .int (i32 0))]) rfl rfl ⟨rfl, rfl, rfl, rfl, trivial⟩ ?_
  exact L4_3 ((((m.2 73) t) - (0 : Int) : Int) + 1).toNat 0 0 ⟨by decide, by decide⟩ ⟨by decide, by decide⟩ (show 0 ≤ (0 : Int) by omega) (show (0 : Int) ≤ (m.2 73) t by omega) (show 0 ≤ (0 : Int) ∧ (0 : Int) ≤ 256 by omega) (show ((m.2 73) t) - (0 : Int) < ((((((m.2 73) t) - (0 : Int) : Int) + 1).toNat : Nat) : Int) by omega)
def Q_tb_bucketOf (m : mR) (c : Nat → Option am_C) (N : Nat) (t : Int) (e : Int) : ag_Re af_T → Prop := fun R => (∃ (r : Int), (0 ≤ r ∧ r ≤ 15) ∧ R = (.inl (some (.int (i32 r))), (khp m c, N), 0, 0))
set_option maxHeartbeats 3000000 in
theorem c_tb_bucketOf (w : wX) (m : mR) (c : Nat → Option am_C) (N D : Nat) (hD : 1 ≤ D) (hT : KTy m) (t : Int) (e : Int) (qt : R32 t) (qe : R32 e) (p0 : 0 ≤ t ∧ t ≤ 7) (p1 : 0 ≤ e ∧ e ≤ 71) : TC w D 193 [.ref (tbr t), .int (i32 e)] (khp m c, N) (Q_tb_bucketOf m c N t e) := by
  obtain ⟨D, rfl⟩ : ∃ k, D = k + 1 := ⟨D - 1, by omega⟩
  obtain ⟨qta, qtb⟩ := id qt
  obtain ⟨qea, qeb⟩ := id qe
  refine Tc_of rfl ?_
  rw [show (khp m c, N) = (khp (mO m [] []) c, N) from by rw [mO_nil m]]
  show TT w D pm_193 (0, [(0, .ref (tbr t)), (1, .int (i32 e))], [], (khp (mO m [] []) c, N), 0, 0) (Q_tb_bucketOf m c N t e)
  refine T_ld 1 (.long (i64 0)) rfl (fun _ => rfl) ?_
  refine T_sto 2 [(2, .long (i64 0)), (0, .ref (tbr t)), (1, .int (i32 e))] rfl (fun _ => rfl) ?_
  refine T_ld 3 (.int (i32 0)) rfl (fun _ => rfl) ?_
  refine T_sto 5 [(4, .int (i32 0)), (2, .long (i64 0)), (0, .ref (tbr t)), (1, .int (i32 e))] rfl (fun _ => rfl) ?_
  have e10 : 0 ≤ m.2 72 t ∧ m.2 72 t ≤ 4 := hT.2.1 72 t
  have L5_3 : ∀ (n9 : Nat) (v1 : Int) (v2 : Int), (R64 v1) → (R32 v2) → (0 ≤ v2) → (v2 ≤ (m.2 72) t) → ((m.2 72) t) - v2 < (n9 : Int) → TT w D pm_193 (5, [(0, .ref (tbr t)), (1, .int (i32 e)), (2, .long (i64 v1)), (4, .int (i32 v2))], [], (khp (mO m [] []) c, N), 0, 0) (Q_tb_bucketOf m c N t e) := by
    intro n9
    induction n9 with
    | zero =>
      intro v1 v2 q6 q7 ic4 ic5 hmu
      obtain ⟨q6a, q6b⟩ := id q6
      obtain ⟨q7a, q7b⟩ := id q7
      exfalso
      omega
    | succ n9 ih =>
      intro v1 v2 q6 q7 ic4 ic5 hmu
      obtain ⟨q6a, q6b⟩ := id q6
      obtain ⟨q7a, q7b⟩ := id q7
      have ih11 := ih
      refine T_ld 7 (.int (i32 v2)) rfl (fun _ => rfl) ?_
      refine T_ld 8 (.ref (tbr t)) rfl (fun _ => rfl) ?_
      refine K_gfi 11 72 (m.2 72) rfl rfl (by omega) (by omega) rfl rfl ?_
      have e12 : 0 ≤ m.2 72 t ∧ m.2 72 t ≤ 4 := hT.2.1 72 t
      refine T_icmp 54 14 rfl rfl rfl (r32 (by omega) (by omega)) (r32 (by omega) (by omega)) (fun (h13 : (m.2 72) t ≤ v2) => ?_) (fun (h13 : ¬ ((m.2 72) t ≤ v2)) => ?_)
      · skip
        refine T_ld 55 (.long (i64 v1)) rfl (fun _ => rfl) ?_
        refine T_ld 56 (.long (i64 v1)) rfl (fun _ => rfl) ?_
        refine T_ld 58 (.int (i32 20)) rfl (fun _ => rfl) ?_
        refine T_lhv 59 _ rfl (fun _ => rfl) (fun z14 h15 => ?_)
        obtain ⟨h15a, h15b⟩ := h15
        refine T_lhv 60 _ rfl (fun _ => rfl) (fun z16 h17 => ?_)
        obtain ⟨h17a, h17b⟩ := h17
        refine T_ld 61 (.long (i64 v1)) rfl (fun _ => rfl) ?_
        refine T_ld 63 (.int (i32 7)) rfl (fun _ => rfl) ?_
        refine T_lhv 64 _ rfl (fun _ => rfl) (fun z18 h19 => ?_)
        obtain ⟨h19a, h19b⟩ := h19
        refine T_lhv 65 _ rfl (fun _ => rfl) (fun z20 h21 => ?_)
        obtain ⟨h21a, h21b⟩ := h21
        refine T_l2i 66 rfl rfl ?_
        refine T_ld 67 (.ref (tbr t)) rfl (fun _ => rfl) ?_
        refine K_gfi 70 75 (m.2 75) rfl rfl (by omega) (by omega) rfl rfl ?_
        have e22 : 0 ≤ m.2 75 t ∧ m.2 75 t ≤ 32 := hT.2.1 75 t
        refine T_ld 71 (.int (i32 1)) rfl (fun _ => rfl) ?_
        refine T_isub 72 rfl rfl ?_
        refine T_hv 73 _ rfl (fun _ => rfl) (fun z23 h24 => ?_)
        obtain ⟨h24a, h24b⟩ := h24
        refine T_ld 75 (.int (i32 15)) rfl (fun _ => rfl) ?_
        refine T_iand 76 rfl rfl (by decide) (by decide) (fun z25 h26 => ?_)
        refine T_ret rfl (fun _ => rfl) ?_
        exact ⟨z25, ⟨by omega, by omega⟩, rfl⟩
      · skip
        refine T_ld 15 (.ref (tbr t)) rfl (fun _ => rfl) ?_
        refine K_gfr 18 rfl rfl (by omega) (by omega) rfl ?_
        refine T_ld 19 (.int (i32 e)) rfl (fun _ => rfl) ?_
        refine T_ld 20 (.int (i32 4)) rfl (fun _ => rfl) ?_
        refine T_imul 21 rfl rfl ?_
        refine T_ld 23 (.int (i32 v2)) rfl (fun _ => rfl) ?_
        refine T_iadd 24 rfl rfl ?_
        refine K_lalt 25 6 (m.2 85) rfl rfl rfl (by omega) (by omega) (by omega) (show ((e * 4) + v2) < (288 : Int) by omega) rfl ?_
        have e27 : (-9223372036854775808) ≤ m.2 85 (65536 * t + ((e * 4) + v2)) ∧ m.2 85 (65536 * t + ((e * 4) + v2)) ≤ 9223372036854775807 := hT.2.1 85 (65536 * t + ((e * 4) + v2))
        refine T_sto 27 [(5, .long (i64 ((m.2 85) (65536 * t + ((e * 4) + v2))))), (0, .ref (tbr t)), (1, .int (i32 e)), (2, .long (i64 v1)), (4, .int (i32 v2))] rfl (fun _ => rfl) ?_
        refine T_ld 30 (.long (i64 31)) rfl (fun _ => rfl) ?_
        refine T_ld 31 (.long (i64 v1)) rfl (fun _ => rfl) ?_
        refine T_lmul 32 rfl rfl ?_
        refine T_lnm (fun z28 h29 => ?_)
        obtain ⟨h29a, h29b⟩ := h29
        refine T_ld 34 (.long (i64 ((m.2 85) (65536 * t + ((e * 4) + v2))))) rfl (fun _ => rfl) ?_
        refine T_ld 36 (.long (i64 ((m.2 85) (65536 * t + ((e * 4) + v2))))) rfl (fun _ => rfl) ?_
        refine T_ld 38 (.int (i32 32)) rfl (fun _ => rfl) ?_
        refine T_lhv 39 _ rfl (fun _ => rfl) (fun z30 h31 => ?_)
        obtain ⟨h31a, h31b⟩ := h31
        refine T_lhv 40 _ rfl (fun _ => rfl) (fun z32 h33 => ?_)
        obtain ⟨h33a, h33b⟩ := h33
        refine T_ld 42 (.long (i64 ((m.2 85) (65536 * t + ((e * 4) + v2))))) rfl (fun _ => rfl) ?_
        refine T_ld 44 (.int (i32 17)) rfl (fun _ => rfl) ?_
        refine T_lhv 45 _ rfl (fun _ => rfl) (fun z34 h35 => ?_)
        obtain ⟨h35a, h35b⟩ := h35
        refine T_lhv 46 _ rfl (fun _ => rfl) (fun z36 h37 => ?_)
        obtain ⟨h37a, h37b⟩ := h37
        refine T_ladd 47 rfl rfl ?_
        refine T_lnm (fun z38 h39 => ?_)
        obtain ⟨h39a, h39b⟩ := h39
        refine T_sto 48 [(2, .long (i64 z38)), (5, .long (i64 ((m.2 85) (65536 * t + ((e * 4) + v2))))), (0, .ref (tbr t)), (1, .int (i32 e)), (4, .int (i32 v2))] rfl (fun _ => rfl) ?_
        refine T_iinc 51 [(4, .int (i32 (v2 + 1))), (2, .long (i64 z38)), (5, .long (i64 ((m.2 85) (65536 * t + ((e * 4) + v2))))), (0, .ref (tbr t)), (1, .int (i32 e))] rfl rfl (by decide) rfl rfl ?_
        refine T_goto 5 rfl (fun _ => rfl) ?_
        refine Tm_lv (a := [(0, .ref (tbr t)), (1, .int (i32 e)), (2, .long (i64 z38)), (4, .int (i32 (v2 + 1)))]) rfl rfl ⟨rfl, rfl, rfl, rfl, trivial⟩ ?_
        exact ih11 z38 (v2 + 1) (r64 (by omega) (by omega)) (r32 (by omega) (by omega)) (show 0 ≤ (v2 + 1) by omega) (show (v2 + 1) ≤ (m.2 72) t by omega) (show ((m.2 72) t) - (v2 + 1) < (n9 : Int) by omega)
  refine Tm_lv (a := [(0, .ref (tbr t)), (1, .int (i32 e)), (2, .long (i64 0)), (4, .int (i32 0))]) rfl rfl ⟨rfl, rfl, rfl, rfl, trivial⟩ ?_
  exact L5_3 ((((m.2 72) t) - (0 : Int) : Int) + 1).toNat 0 0 ⟨by decide, by decide⟩ ⟨by decide, by decide⟩ (show 0 ≤ (0 : Int) by omega) (show (0 : Int) ≤ (m.2 72) t by omega) (show ((m.2 72) t) - (0 : Int) < ((((((m.2 72) t) - (0 : Int) : Int) + 1).toNat : Nat) : Int) by omega)
def fF_tb_above : List Nat := []
def fA_tb_above : List Nat := [90]
def Q_tb_above (m : mR) (c : Nat → Option am_C) (N : Nat) (t : Int) (n : Int) : ag_Re af_T → Prop := fun R => (∃ (M : mR) (r : Int), KTy M ∧ fr fF_tb_above fA_tb_above m M ∧ (0 ≤ r ∧ r ≤ 72) ∧ R = (.inl (some (.int (i32 r))), (khp M c, N), 0, 0))
set_option maxHeartbeats 3000000 in
theorem c_tb_above (w : wX) (m : mR) (c : Nat → Option am_C) (N D : Nat) (hD : 2 ≤ D) (hT : KTy m) (t : Int) (n : Int) (qt : R32 t) (qn : R32 n) (p0 : 0 ≤ t ∧ t ≤ 7) (p1 : 0 ≤ n ∧ n ≤ 72) : TC w D 192 [.ref (tbr t), .int (i32 n)] (khp m c, N) (Q_tb_above m c N t n) := by
  obtain ⟨D, rfl⟩ : ∃ k, D = k + 1 := ⟨D - 1, by omega⟩
  obtain ⟨qta, qtb⟩ := id qt
  obtain ⟨qna, qnb⟩ := id qn
  refine Tc_of rfl ?_
  rw [show (khp m c, N) = (khp (mO m [] []) c, N) from by rw [mO_nil m]]
  show TT w D pm_192 (0, [(0, .ref (tbr t)), (1, .int (i32 n))], [], (khp (mO m [] []) c, N), 0, 0) (Q_tb_above m c N t n)
  refine T_ld 1 (.ref (tbr t)) rfl (fun _ => rfl) ?_
  refine T_callx 4 135 [.ref (tbr t)] [] rfl (inv_vt (args := []) (khp_t0 _ (by omega) (by omega)) rfl rfl rfl) rfl rfl (c_tb_isHashed w (mO m [] []) c N D (by omega) hT t (r32 (by omega) (by omega)) (show 0 ≤ t ∧ t ≤ 7 by omega)) (fun rr1 k2 => ?_)
  obtain ⟨x3, g4, rfl⟩ := k2
  refine Or.inl ⟨_, _, _, _, rfl, ?_⟩
  refine T_ns (st' := [.int (i32 x3)]) rfl ?_
  obtain ⟨g4a, g4b⟩ := g4
  refine T_if 9 7 rfl rfl rfl (r32 (by omega) (by omega)) (fun (h5 : x3 ≠ 0) => ?_) (fun (h5 : ¬ (x3 ≠ 0)) => ?_)
  · skip
    refine T_ld 10 (.ref (tbr t)) rfl (fun _ => rfl) ?_
    refine K_gfr 13 rfl rfl (by omega) (by omega) rfl ?_
    refine T_ld 14 (.int (i32 0)) rfl (fun _ => rfl) ?_
    refine T_callx 17 25 [.ref (tbr t + (11 + 1)), .int (i32 0)] [] rfl (fun _ => rfl) rfl rfl (c_fill_tb_filled w (mO m [] []) c N D (by omega) hT 0 t ⟨by decide, by decide⟩ (r32 (by omega) (by omega)) (show 0 ≤ (0 : Int) ∧ (0 : Int) ≤ 0 by omega) (show 0 ≤ t ∧ t ≤ 7 by omega)) (fun rr6 k7 => ?_)
    obtain ⟨m8, Tm8, Fm8, h9, rfl⟩ := k7
    refine Or.inl ⟨_, _, _, _, rfl, ?_⟩
    refine K_nb (st' := []) rfl ?_
    replace h9 : ∀ j, 0 ≤ j → j < 16 → (m8.2 90) (65536 * t + j) = (0 : Int) := h9
    have hFz := h9
    refine T_ld 18 (.int (i32 0)) rfl (fun _ => rfl) ?_
    refine T_sto 19 [(2, .int (i32 0)), (0, .ref (tbr t)), (1, .int (i32 n))] rfl (fun _ => rfl) ?_
    refine T_ld 20 (.int (i32 0)) rfl (fun _ => rfl) ?_
    refine T_sto 21 [(3, .int (i32 0)), (2, .int (i32 0)), (0, .ref (tbr t)), (1, .int (i32 n))] rfl (fun _ => rfl) ?_
    have L21_13 : ∀ (n23 : Nat) (v10 : Int) (v11 : Int) (m12 : mR), (R32 v10) → (R32 v11) → KTy m12 → fr [] [90] (mO m8 [] []) m12 → (0 ≤ v10) → (0 ≤ v11) → (v11 ≤ n) → (0 ≤ v10 ∧ v10 ≤ v11) → (∀ j, 0 ≤ j → j < 16 → (m12.2 90) (65536 * t + j) ≤ v11) → n - v11 < (n23 : Int) → TT w D pm_192 (21, [(0, .ref (tbr t)), (1, .int (i32 n)), (2, .int (i32 v10)), (3, .int (i32 v11))], [], (khp (mO m12 [] []) c, N), 0, 0) (Q_tb_above m c N t n) := by
      intro n23
      induction n23 with
      | zero =>
        intro v10 v11 m12 q19 q20 Tm12 Fm12 ic14 ic15 ic16 ic17 ic18 hmu
        obtain ⟨q19a, q19b⟩ := id q19
        obtain ⟨q20a, q20b⟩ := id q20
        have hib := ic18
        exfalso
        omega
      | succ n23 ih =>
        intro v10 v11 m12 q19 q20 Tm12 Fm12 ic14 ic15 ic16 ic17 ic18 hmu
        obtain ⟨q19a, q19b⟩ := id q19
        obtain ⟨q20a, q20b⟩ := id q20
        have hib := ic18
        have ih24 := ih
        refine T_ld 22 (.int (i32 v11)) rfl (fun _ => rfl) ?_
        refine T_ld 23 (.int (i32 n)) rfl (fun _ => rfl) ?_
        refine T_icmp 72 26 rfl rfl rfl (r32 (by omega) (by omega)) (r32 (by omega) (by omega)) (fun (h25 : n ≤ v11) => ?_) (fun (h25 : ¬ (n ≤ v11)) => ?_)
        · skip
          refine T_ld 73 (.int (i32 v10)) rfl (fun _ => rfl) ?_
          refine T_ret rfl (fun _ => rfl) ?_
          exact ⟨(mO m12 [] []), v10, Tm12, (fr_m (fr_s Fm12 (fr_m (fr_s Fm8 (fr_m fr_0 rfl rfl) rfl rfl) rfl rfl) rfl rfl) rfl rfl), ⟨by omega, by omega⟩, rfl⟩
        · skip
          refine T_ld 27 (.ref (tbr t)) rfl (fun _ => rfl) ?_
          refine T_ld 28 (.int (i32 v11)) rfl (fun _ => rfl) ?_
          refine T_callx 31 193 [.ref (tbr t), .int (i32 v11)] [] rfl (inv_vt (args := [.int (i32 v11)]) (khp_t0 _ (by omega) (by omega)) rfl rfl rfl) rfl rfl (c_tb_bucketOf w (mO m12 [] []) c N D (by omega) Tm12 t v11 (r32 (by omega) (by omega)) (r32 (by omega) (by omega)) (show 0 ≤ t ∧ t ≤ 7 by omega) (show 0 ≤ v11 ∧ v11 ≤ 71 by omega)) (fun rr26 k27 => ?_)
          obtain ⟨bu, g28, rfl⟩ := k27
          refine Or.inl ⟨_, _, _, _, rfl, ?_⟩
          refine T_ns (st' := [.int (i32 bu)]) rfl ?_
          obtain ⟨g28a, g28b⟩ := g28
          refine T_sto 33 [(4, .int (i32 bu)), (0, .ref (tbr t)), (1, .int (i32 n)), (2, .int (i32 v10)), (3, .int (i32 v11))] rfl (fun _ => rfl) ?_
          have hib4 := hib bu (by omega) (by omega)
          refine T_ld 34 (.ref (tbr t)) rfl (fun _ => rfl) ?_
          refine K_gfr 37 rfl rfl (by omega) (by omega) rfl ?_
          refine T_ld 39 (.int (i32 bu)) rfl (fun _ => rfl) ?_
          refine T_dup2 40 rfl (fun _ => rfl) ?_
          refine K_ialt 41 11 (m12.2 90) rfl rfl rfl (by omega) (by omega) (by omega) (show bu < (16 : Int) by omega) rfl ?_
          have e29 : 0 ≤ (m12.2 90) (65536 * t + bu) ∧ (m12.2 90) (65536 * t + bu) ≤ 72 := (Tm12.2.1 90) (65536 * t + bu)
          refine T_ld 42 (.int (i32 1)) rfl (fun _ => rfl) ?_
          refine T_iadd 43 rfl rfl ?_
          have G30 : ∀ j, 0 ≤ (upI (m12.2 90) (65536 * t + bu) (((m12.2 90) (65536 * t + bu)) + 1)) j ∧ (upI (m12.2 90) (65536 * t + bu) (((m12.2 90) (65536 * t + bu)) + 1)) j ≤ 72 := upI_rg (Tm12.2.1 90) ⟨by omega, by omega⟩
          refine K_iastt (a' := [(90, upI (m12.2 90) (65536 * t + bu) (((m12.2 90) (65536 * t + bu)) + 1))]) 44 11 (m12.2 90) rfl rfl rfl (by omega) (by omega) (by omega) (show bu < (16 : Int) by omega) rfl rfl ?_
          refine T_ld 45 (.int (i32 v10)) rfl (fun _ => rfl) ?_
          refine T_ld 46 (.ref (tbr t)) rfl (fun _ => rfl) ?_
          refine K_gfr 49 rfl rfl (by omega) (by omega) rfl ?_
          refine T_ld 51 (.int (i32 bu)) rfl (fun _ => rfl) ?_
          refine K_ialt 52 11 (upI (m12.2 90) (65536 * t + bu) (((m12.2 90) (65536 * t + bu)) + 1)) rfl rfl rfl (by omega) (by omega) (by omega) (show bu < (16 : Int) by omega) rfl ?_
          refine T_cast (((m12.2 90) (65536 * t + bu)) + 1) upI_s ?_
          refine T_ld 53 (.ref (tbr t)) rfl (fun _ => rfl) ?_
          refine K_gfi 56 76 (m.2 76) rfl rfl (by omega) (by omega) (show (m12.2 76) = (m.2 76) from ((fr2 Fm12 76 rfl).trans (fr2 Fm8 76 rfl))) rfl ?_
          have e31 : 0 ≤ m.2 76 t ∧ m.2 76 t ≤ 4 := hT.2.1 76 t
          refine T_icmp 63 59 rfl rfl rfl (r32 (by omega) (by omega)) (r32 (by omega) (by omega)) (fun (h32 : (((m12.2 90) (65536 * t + bu)) + 1) ≤ (m.2 76) t) => ?_) (fun (h32 : ¬ ((((m12.2 90) (65536 * t + bu)) + 1) ≤ (m.2 76) t)) => ?_)
          · skip
            refine T_ld 64 (.int (i32 0)) rfl (fun _ => rfl) ?_
            refine T_iadd 65 rfl rfl ?_
            refine T_sto 66 [(2, .int (i32 (v10 + 0))), (4, .int (i32 bu)), (0, .ref (tbr t)), (1, .int (i32 n)), (3, .int (i32 v11))] rfl (fun _ => rfl) ?_
            refine T_iinc 69 [(3, .int (i32 (v11 + 1))), (2, .int (i32 (v10 + 0))), (4, .int (i32 bu)), (0, .ref (tbr t)), (1, .int (i32 n))] rfl rfl (by decide) rfl rfl ?_
            refine T_goto 21 rfl (fun _ => rfl) ?_
            refine Tm_lv (a := [(0, .ref (tbr t)), (1, .int (i32 n)), (2, .int (i32 (v10 + 0))), (3, .int (i32 (v11 + 1)))]) rfl rfl ⟨rfl, rfl, rfl, rfl, trivial⟩ ?_
            exact ih24 (v10 + 0) (v11 + 1) (mO m12 [] [(90, upI (m12.2 90) (65536 * t + bu) (((m12.2 90) (65536 * t + bu)) + 1))]) (r32 (by omega) (by omega)) (r32 (by omega) (by omega)) (KTy_mO Tm12 rfl rfl trivial ⟨G30, trivial⟩) (fr_m (fr_s Fm12 (fr_m fr_0 rfl rfl) rfl rfl) rfl rfl) (show 0 ≤ (v10 + 0) by omega) (show 0 ≤ (v11 + 1) by omega) (show (v11 + 1) ≤ n by omega) (show 0 ≤ (v10 + 0) ∧ (v10 + 0) ≤ (v11 + 1) by omega) (show ∀ j, 0 ≤ j → j < 16 → (upI (m12.2 90) (65536 * t + bu) (((m12.2 90) (65536 * t + bu)) + 1)) (65536 * t + j) ≤ (v11 + 1) by first | (intro j a b; rw [hFz j a b]; omega) | (intro j a b; have h1 := hib j a b; have h2 := hib bu (by omega) (by omega); unfold upI; split <;> omega)) (show n - (v11 + 1) < (n23 : Int) by omega)
          · skip
            refine T_ld 60 (.int (i32 1)) rfl (fun _ => rfl) ?_
            refine T_goto 64 rfl (fun _ => rfl) ?_
            refine T_iadd 65 rfl rfl ?_
            refine T_sto 66 [(2, .int (i32 (v10 + 1))), (4, .int (i32 bu)), (0, .ref (tbr t)), (1, .int (i32 n)), (3, .int (i32 v11))] rfl (fun _ => rfl) ?_
            refine T_iinc 69 [(3, .int (i32 (v11 + 1))), (2, .int (i32 (v10 + 1))), (4, .int (i32 bu)), (0, .ref (tbr t)), (1, .int (i32 n))] rfl rfl (by decide) rfl rfl ?_
            refine T_goto 21 rfl (fun _ => rfl) ?_
            refine Tm_lv (a := [(0, .ref (tbr t)), (1, .int (i32 n)), (2, .int (i32 (v10 + 1))), (3, .int (i32 (v11 + 1)))]) rfl rfl ⟨rfl, rfl, rfl, rfl, trivial⟩ ?_
            exact ih24 (v10 + 1) (v11 + 1) (mO m12 [] [(90, upI (m12.2 90) (65536 * t + bu) (((m12.2 90) (65536 * t + bu)) + 1))]) (r32 (by omega) (by omega)) (r32 (by omega) (by omega)) (KTy_mO Tm12 rfl rfl trivial ⟨G30, trivial⟩) (fr_m (fr_s Fm12 (fr_m fr_0 rfl rfl) rfl rfl) rfl rfl) (show 0 ≤ (v10 + 1) by omega) (show 0 ≤ (v11 + 1) by omega) (show (v11 + 1) ≤ n by omega) (show 0 ≤ (v10 + 1) ∧ (v10 + 1) ≤ (v11 + 1) by omega) (show ∀ j, 0 ≤ j → j < 16 → (upI (m12.2 90) (65536 * t + bu) (((m12.2 90) (65536 * t + bu)) + 1)) (65536 * t + j) ≤ (v11 + 1) by first | (intro j a b; rw [hFz j a b]; omega) | (intro j a b; have h1 := hib j a b; have h2 := hib bu (by omega) (by omega); unfold upI; split <;> omega)) (show n - (v11 + 1) < (n23 : Int) by omega)
    refine Tm_lv (a := [(0, .ref (tbr t)), (1, .int (i32 n)), (2, .int (i32 0)), (3, .int (i32 0))]) rfl rfl ⟨rfl, rfl, rfl, rfl, trivial⟩ ?_
    exact L21_13 ((n - (0 : Int) : Int) + 1).toNat 0 0 (mO m8 [] []) ⟨by decide, by decide⟩ ⟨by decide, by decide⟩ Tm8 (fr_m fr_0 rfl rfl) (show 0 ≤ (0 : Int) by omega) (show 0 ≤ (0 : Int) by omega) (show (0 : Int) ≤ n by omega) (show 0 ≤ (0 : Int) ∧ (0 : Int) ≤ (0 : Int) by omega) (show ∀ j, 0 ≤ j → j < 16 → (m8.2 90) (65536 * t + j) ≤ (0 : Int) by first | (intro j a b; rw [hFz j a b]; omega) | (intro j a b; have h1 := hib j a b; have h2 := hib NOLOCAL (by omega) (by omega); unfold upI; split <;> omega)) (show n - (0 : Int) < ((((n - (0 : Int) : Int) + 1).toNat : Nat) : Int) by omega)
  · skip
    refine T_ld 8 (.int (i32 0)) rfl (fun _ => rfl) ?_
    refine T_ret rfl (fun _ => rfl) ?_
    exact ⟨(mO m [] []), 0, hT, (fr_m fr_0 rfl rfl), ⟨by omega, by omega⟩, rfl⟩
def fF_tb_remove : List Nat := []
def fA_tb_remove : List Nat := [78, 85, 86, 87, 88, 89]
def Q_tb_remove (m : mR) (c : Nat → Option am_C) (N : Nat) (t : Int) (e : Int) : ag_Re af_T → Prop := fun R => (∃ (M : mR), KTy M ∧ fr fF_tb_remove fA_tb_remove m M ∧ ((M.2 78) = upI (m.2 78) t ((m.2 78) t - 1)) ∧ (∃ k, CHp t ((m.2 78) t) k (m.2 89) (M.2 89)) ∧ R = (.inl (none), (khp M c, N), 0, 0))
set_option maxHeartbeats 3000000 in
theorem c_tb_remove (w : wX) (m : mR) (c : Nat → Option am_C) (N D : Nat) (hD : 1 ≤ D) (hT : KTy m) (t : Int) (e : Int) (qt : R32 t) (qe : R32 e) (p0 : 0 ≤ t ∧ t ≤ 7) (p1 : 0 ≤ e ∧ e ≤ 71) (p2 : 1 ≤ (m.2 78) t) : TC w D 190 [.ref (tbr t), .int (i32 e)] (khp m c, N) (Q_tb_remove m c N t e) := by
  obtain ⟨D, rfl⟩ : ∃ k, D = k + 1 := ⟨D - 1, by omega⟩
  obtain ⟨qta, qtb⟩ := id qt
  obtain ⟨qea, qeb⟩ := id qe
  refine Tc_of rfl ?_
  rw [show (khp m c, N) = (khp (mO m [] []) c, N) from by rw [mO_nil m]]
  show TT w D pm_190 (0, [(0, .ref (tbr t)), (1, .int (i32 e))], [], (khp (mO m [] []) c, N), 0, 0) (Q_tb_remove m c N t e)
  refine T_ld 1 (.int (i32 e)) rfl (fun _ => rfl) ?_
  refine T_sto 2 [(2, .int (i32 e)), (0, .ref (tbr t)), (1, .int (i32 e))] rfl (fun _ => rfl) ?_
  have L2_3 : ∀ (n11 : Nat) (v1 : Int) (m2 : mR), (R32 v1) → KTy m2 → fr [] [85, 86, 87, 88, 89] (mO m [] []) m2 → (0 ≤ v1) → (v1 ≤ 71) → (0 ≤ v1 ∧ v1 ≤ 72) → (CHp t ((m.2 78) t) v1 (m.2 89) (m2.2 89)) → 80 - v1 < (n11 : Int) → TT w D pm_190 (2, [(0, .ref (tbr t)), (2, .int (i32 v1))], [], (khp (mO m2 [] []) c, N), 0, 0) (Q_tb_remove m c N t e) := by
    intro n11
    induction n11 with
    | zero =>
      intro v1 m2 q8 Tm2 Fm2 ic4 ic5 ic6 ic7 hmu
      obtain ⟨q8a, q8b⟩ := id q8
      have hCH := ic7
      exfalso
      omega
    | succ n11 ih =>
      intro v1 m2 q8 Tm2 Fm2 ic4 ic5 ic6 ic7 hmu
      obtain ⟨q8a, q8b⟩ := id q8
      have hCH := ic7
      have ih12 := ih
      refine T_ld 3 (.int (i32 v1)) rfl (fun _ => rfl) ?_
      refine T_ld 4 (.ref (tbr t)) rfl (fun _ => rfl) ?_
      refine K_gfi 7 78 (m.2 78) rfl rfl (by omega) (by omega) (show (m2.2 78) = (m.2 78) from (fr2 Fm2 78 rfl)) rfl ?_
      have e13 : 0 ≤ (m.2 78) t ∧ (m.2 78) t ≤ 72 := (hT.2.1 78) t
      refine T_ld 8 (.int (i32 1)) rfl (fun _ => rfl) ?_
      refine T_isub 9 rfl rfl ?_
      refine T_icmp 125 12 rfl rfl rfl (r32 (by omega) (by omega)) (r32 (by omega) (by omega)) (fun (h14 : ((m.2 78) t) - 1 ≤ v1) => ?_) (fun (h14 : ¬ (((m.2 78) t) - 1 ≤ v1)) => ?_)
      · skip
        refine T_ld 126 (.ref (tbr t)) rfl (fun _ => rfl) ?_
        refine T_ld 127 (.ref (tbr t)) rfl (fun _ => rfl) ?_
        refine K_gfi 130 78 (m.2 78) rfl rfl (by omega) (by omega) (show (m2.2 78) = (m.2 78) from (fr2 Fm2 78 rfl)) rfl ?_
        have e15 : 0 ≤ (m.2 78) t ∧ (m.2 78) t ≤ 72 := (hT.2.1 78) t
        refine T_ld 131 (.int (i32 1)) rfl (fun _ => rfl) ?_
        refine T_isub 132 rfl rfl ?_
        have G16 : ∀ j, 0 ≤ (upI (m.2 78) t (((m.2 78) t) - 1)) j ∧ (upI (m.2 78) t (((m.2 78) t) - 1)) j ≤ 72 := upI_rg (hT.2.1 78) ⟨by omega, by omega⟩
        refine K_pfi (a' := [(78, upI (m.2 78) t (((m.2 78) t) - 1))]) 135 78 (m.2 78) rfl rfl rfl (by omega) (by omega) (show (m2.2 78) = (m.2 78) from (fr2 Fm2 78 rfl)) rfl rfl ?_
        refine T_ret rfl (fun _ => rfl) ?_
        exact ⟨(mO m2 [] [(78, upI (m.2 78) t (((m.2 78) t) - 1))]), (KTy_mO Tm2 rfl rfl trivial ⟨G16, trivial⟩), (fr_m (fr_s Fm2 (fr_m fr_0 rfl rfl) rfl rfl) rfl rfl), (show (upI (m.2 78) t (((m.2 78) t) - 1)) = upI (m.2 78) t ((m.2 78) t - 1) by rfl), (show ∃ k, CHp t ((m.2 78) t) k (m.2 89) (m2.2 89) by first | (exact ⟨_, hCH⟩) | (exfalso; omega)), rfl⟩
      · skip
        refine T_ld 13 (.int (i32 0)) rfl (fun _ => rfl) ?_
        refine T_sto 14 [(3, .int (i32 0)), (0, .ref (tbr t)), (2, .int (i32 v1))] rfl (fun _ => rfl) ?_
        have L14_19 : ∀ (n25 : Nat) (v17 : Int) (m18 : mR), (R32 v17) → KTy m18 → fr [] [85, 86, 87] (mO m2 [] []) m18 → (0 ≤ v17) → (v17 ≤ 4) → 4 - v17 < (n25 : Int) → TT w D pm_190 (14, [(0, .ref (tbr t)), (2, .int (i32 v1)), (3, .int (i32 v17))], [], (khp (mO m18 [] []) c, N), 0, 0) (Q_tb_remove m c N t e) := by
          intro n25
          induction n25 with
          | zero =>
            intro v17 m18 q22 Tm18 Fm18 ic20 ic21 hmu
            obtain ⟨q22a, q22b⟩ := id q22
            exfalso
            omega
          | succ n25 ih =>
            intro v17 m18 q22 Tm18 Fm18 ic20 ic21 hmu
            obtain ⟨q22a, q22b⟩ := id q22
            have ih26 := ih
            refine T_ld 15 (.int (i32 v17)) rfl (fun _ => rfl) ?_
            refine T_ld 16 (.int (i32 4)) rfl (fun _ => rfl) ?_
            refine T_icmp 91 19 rfl rfl rfl (r32 (by omega) (by omega)) ⟨by decide, by decide⟩ (fun (h27 : (4 : Int) ≤ v17) => ?_) (fun (h27 : ¬ ((4 : Int) ≤ v17)) => ?_)
            · skip
              refine T_ld 92 (.ref (tbr t)) rfl (fun _ => rfl) ?_
              refine K_gfr 95 rfl rfl (by omega) (by omega) rfl ?_
              refine T_ld 96 (.int (i32 v1)) rfl (fun _ => rfl) ?_
              refine T_ld 97 (.ref (tbr t)) rfl (fun _ => rfl) ?_
              refine K_gfr 100 rfl rfl (by omega) (by omega) rfl ?_
              refine T_ld 101 (.int (i32 v1)) rfl (fun _ => rfl) ?_
              refine T_ld 102 (.int (i32 1)) rfl (fun _ => rfl) ?_
              refine T_iadd 103 rfl rfl ?_
              refine K_ialt 104 9 (m2.2 88) rfl rfl rfl (by omega) (by omega) (by omega) (show (v1 + 1) < (72 : Int) by omega) (show (m18.2 88) = (m2.2 88) from (fr2 Fm18 88 rfl)) ?_
              have e28 : (-2147483648) ≤ (m2.2 88) (65536 * t + (v1 + 1)) ∧ (m2.2 88) (65536 * t + (v1 + 1)) ≤ 2147483647 := (Tm2.2.1 88) (65536 * t + (v1 + 1))
              have G29 : ∀ j, (-2147483648) ≤ (upI (m2.2 88) (65536 * t + v1) ((m2.2 88) (65536 * t + (v1 + 1)))) j ∧ (upI (m2.2 88) (65536 * t + v1) ((m2.2 88) (65536 * t + (v1 + 1)))) j ≤ 2147483647 := upI_rg (Tm2.2.1 88) ⟨by omega, by omega⟩
              refine K_iastt (a' := [(88, upI (m2.2 88) (65536 * t + v1) ((m2.2 88) (65536 * t + (v1 + 1))))]) 105 9 (m2.2 88) rfl rfl rfl (by omega) (by omega) (by omega) (show v1 < (72 : Int) by omega) (show (m18.2 88) = (m2.2 88) from (fr2 Fm18 88 rfl)) rfl ?_
              refine T_ld 106 (.ref (tbr t)) rfl (fun _ => rfl) ?_
              refine K_gfr 109 rfl rfl (by omega) (by omega) rfl ?_
              refine T_ld 110 (.int (i32 v1)) rfl (fun _ => rfl) ?_
              refine T_ld 111 (.ref (tbr t)) rfl (fun _ => rfl) ?_
              refine K_gfr 114 rfl rfl (by omega) (by omega) rfl ?_
              refine T_ld 115 (.int (i32 v1)) rfl (fun _ => rfl) ?_
              refine T_ld 116 (.int (i32 1)) rfl (fun _ => rfl) ?_
              refine T_iadd 117 rfl rfl ?_
              refine K_ialt 118 10 (m2.2 89) rfl rfl rfl (by omega) (by omega) (by omega) (show (v1 + 1) < (72 : Int) by omega) (show (m18.2 89) = (m2.2 89) from (fr2 Fm18 89 rfl)) ?_
              have e30 : 0 ≤ (m2.2 89) (65536 * t + (v1 + 1)) ∧ (m2.2 89) (65536 * t + (v1 + 1)) ≤ 15 := (Tm2.2.1 89) (65536 * t + (v1 + 1))
              have G31 : ∀ j, 0 ≤ (upI (m2.2 89) (65536 * t + v1) ((m2.2 89) (65536 * t + (v1 + 1)))) j ∧ (upI (m2.2 89) (65536 * t + v1) ((m2.2 89) (65536 * t + (v1 + 1)))) j ≤ 15 := upI_rg (Tm2.2.1 89) ⟨by omega, by omega⟩
              refine K_iastt (a' := [(88, upI (m2.2 88) (65536 * t + v1) ((m2.2 88) (65536 * t + (v1 + 1)))), (89, upI (m2.2 89) (65536 * t + v1) ((m2.2 89) (65536 * t + (v1 + 1))))]) 119 10 (m2.2 89) rfl rfl rfl (by omega) (by omega) (by omega) (show v1 < (72 : Int) by omega) (show (m18.2 89) = (m2.2 89) from (fr2 Fm18 89 rfl)) rfl ?_
              refine T_iinc 122 [(2, .int (i32 (v1 + 1))), (0, .ref (tbr t)), (3, .int (i32 v17))] rfl rfl (by decide) rfl rfl ?_
              refine T_goto 2 rfl (fun _ => rfl) ?_
              refine Tm_lv (a := [(0, .ref (tbr t)), (2, .int (i32 (v1 + 1)))]) rfl rfl ⟨rfl, rfl, trivial⟩ ?_
              exact ih12 (v1 + 1) (mO m18 [] [(88, upI (m2.2 88) (65536 * t + v1) ((m2.2 88) (65536 * t + (v1 + 1)))), (89, upI (m2.2 89) (65536 * t + v1) ((m2.2 89) (65536 * t + (v1 + 1))))]) (r32 (by omega) (by omega)) (KTy_mO Tm18 rfl rfl trivial ⟨G29, G31, trivial⟩) (fr_m (fr_s Fm18 (fr_m (fr_s Fm2 (fr_m fr_0 rfl rfl) rfl rfl) rfl rfl) rfl rfl) rfl rfl) (show 0 ≤ (v1 + 1) by omega) (show (v1 + 1) ≤ 71 by omega) (show 0 ≤ (v1 + 1) ∧ (v1 + 1) ≤ 72 by omega) (show CHp t ((m.2 78) t) (v1 + 1) (m.2 89) (upI (m2.2 89) (65536 * t + v1) ((m2.2 89) (65536 * t + (v1 + 1)))) by first | exact CH_0 | exact CH_s hCH (by omega) (by omega) rfl rfl) (show 80 - (v1 + 1) < (n11 : Int) by omega)
            · skip
              refine T_ld 20 (.ref (tbr t)) rfl (fun _ => rfl) ?_
              refine K_gfr 23 rfl rfl (by omega) (by omega) rfl ?_
              refine T_ld 24 (.int (i32 v1)) rfl (fun _ => rfl) ?_
              refine T_ld 25 (.int (i32 4)) rfl (fun _ => rfl) ?_
              refine T_imul 26 rfl rfl ?_
              refine T_ld 27 (.int (i32 v17)) rfl (fun _ => rfl) ?_
              refine T_iadd 28 rfl rfl ?_
              refine T_ld 29 (.ref (tbr t)) rfl (fun _ => rfl) ?_
              refine K_gfr 32 rfl rfl (by omega) (by omega) rfl ?_
              refine T_ld 33 (.int (i32 v1)) rfl (fun _ => rfl) ?_
              refine T_ld 34 (.int (i32 4)) rfl (fun _ => rfl) ?_
              refine T_imul 35 rfl rfl ?_
              refine T_ld 36 (.int (i32 4)) rfl (fun _ => rfl) ?_
              refine T_iadd 37 rfl rfl ?_
              refine T_ld 38 (.int (i32 v17)) rfl (fun _ => rfl) ?_
              refine T_iadd 39 rfl rfl ?_
              refine K_lalt 40 6 (m18.2 85) rfl rfl rfl (by omega) (by omega) (by omega) (show (((v1 * 4) + 4) + v17) < (288 : Int) by omega) rfl ?_
              have e32 : (-9223372036854775808) ≤ (m18.2 85) (65536 * t + (((v1 * 4) + 4) + v17)) ∧ (m18.2 85) (65536 * t + (((v1 * 4) + 4) + v17)) ≤ 9223372036854775807 := (Tm18.2.1 85) (65536 * t + (((v1 * 4) + 4) + v17))
              have G33 : ∀ j, (-9223372036854775808) ≤ (upI (m18.2 85) (65536 * t + ((v1 * 4) + v17)) ((m18.2 85) (65536 * t + (((v1 * 4) + 4) + v17)))) j ∧ (upI (m18.2 85) (65536 * t + ((v1 * 4) + v17)) ((m18.2 85) (65536 * t + (((v1 * 4) + 4) + v17)))) j ≤ 9223372036854775807 := upI_rg (Tm18.2.1 85) ⟨by omega, by omega⟩
              refine K_lastt (a' := [(85, upI (m18.2 85) (65536 * t + ((v1 * 4) + v17)) ((m18.2 85) (65536 * t + (((v1 * 4) + 4) + v17))))]) 41 6 (m18.2 85) rfl rfl rfl (by omega) (by omega) (by omega) (show ((v1 * 4) + v17) < (288 : Int) by omega) rfl rfl ?_
              refine T_ld 42 (.ref (tbr t)) rfl (fun _ => rfl) ?_
              refine K_gfr 45 rfl rfl (by omega) (by omega) rfl ?_
              refine T_ld 46 (.int (i32 v1)) rfl (fun _ => rfl) ?_
              refine T_ld 47 (.int (i32 4)) rfl (fun _ => rfl) ?_
              refine T_imul 48 rfl rfl ?_
              refine T_ld 49 (.int (i32 v17)) rfl (fun _ => rfl) ?_
              refine T_iadd 50 rfl rfl ?_
              refine T_ld 51 (.ref (tbr t)) rfl (fun _ => rfl) ?_
              refine K_gfr 54 rfl rfl (by omega) (by omega) rfl ?_
              refine T_ld 55 (.int (i32 v1)) rfl (fun _ => rfl) ?_
              refine T_ld 56 (.int (i32 4)) rfl (fun _ => rfl) ?_
              refine T_imul 57 rfl rfl ?_
              refine T_ld 58 (.int (i32 4)) rfl (fun _ => rfl) ?_
              refine T_iadd 59 rfl rfl ?_
              refine T_ld 60 (.int (i32 v17)) rfl (fun _ => rfl) ?_
              refine T_iadd 61 rfl rfl ?_
              refine K_lalt 62 7 (m18.2 86) rfl rfl rfl (by omega) (by omega) (by omega) (show (((v1 * 4) + 4) + v17) < (288 : Int) by omega) rfl ?_
              have e34 : (-9223372036854775808) ≤ (m18.2 86) (65536 * t + (((v1 * 4) + 4) + v17)) ∧ (m18.2 86) (65536 * t + (((v1 * 4) + 4) + v17)) ≤ 9223372036854775807 := (Tm18.2.1 86) (65536 * t + (((v1 * 4) + 4) + v17))
              have G35 : ∀ j, (-9223372036854775808) ≤ (upI (m18.2 86) (65536 * t + ((v1 * 4) + v17)) ((m18.2 86) (65536 * t + (((v1 * 4) + 4) + v17)))) j ∧ (upI (m18.2 86) (65536 * t + ((v1 * 4) + v17)) ((m18.2 86) (65536 * t + (((v1 * 4) + 4) + v17)))) j ≤ 9223372036854775807 := upI_rg (Tm18.2.1 86) ⟨by omega, by omega⟩
              refine K_lastt (a' := [(85, upI (m18.2 85) (65536 * t + ((v1 * 4) + v17)) ((m18.2 85) (65536 * t + (((v1 * 4) + 4) + v17)))), (86, upI (m18.2 86) (65536 * t + ((v1 * 4) + v17)) ((m18.2 86) (65536 * t + (((v1 * 4) + 4) + v17))))]) 63 7 (m18.2 86) rfl rfl rfl (by omega) (by omega) (by omega) (show ((v1 * 4) + v17) < (288 : Int) by omega) rfl rfl ?_
              refine T_ld 64 (.ref (tbr t)) rfl (fun _ => rfl) ?_
              refine K_gfr 67 rfl rfl (by omega) (by omega) rfl ?_
              refine T_ld 68 (.int (i32 v1)) rfl (fun _ => rfl) ?_
              refine T_ld 69 (.int (i32 4)) rfl (fun _ => rfl) ?_
              refine T_imul 70 rfl rfl ?_
              refine T_ld 71 (.int (i32 v17)) rfl (fun _ => rfl) ?_
              refine T_iadd 72 rfl rfl ?_
              refine T_ld 73 (.ref (tbr t)) rfl (fun _ => rfl) ?_
              refine K_gfr 76 rfl rfl (by omega) (by omega) rfl ?_
              refine T_ld 77 (.int (i32 v1)) rfl (fun _ => rfl) ?_
              refine T_ld 78 (.int (i32 4)) rfl (fun _ => rfl) ?_
              refine T_imul 79 rfl rfl ?_
              refine T_ld 80 (.int (i32 4)) rfl (fun _ => rfl) ?_
              refine T_iadd 81 rfl rfl ?_
              refine T_ld 82 (.int (i32 v17)) rfl (fun _ => rfl) ?_
              refine T_iadd 83 rfl rfl ?_
              refine K_lalt 84 8 (m18.2 87) rfl rfl rfl (by omega) (by omega) (by omega) (show (((v1 * 4) + 4) + v17) < (288 : Int) by omega) rfl ?_
              have e36 : (-9223372036854775808) ≤ (m18.2 87) (65536 * t + (((v1 * 4) + 4) + v17)) ∧ (m18.2 87) (65536 * t + (((v1 * 4) + 4) + v17)) ≤ 9223372036854775807 := (Tm18.2.1 87) (65536 * t + (((v1 * 4) + 4) + v17))
              have G37 : ∀ j, (-9223372036854775808) ≤ (upI (m18.2 87) (65536 * t + ((v1 * 4) + v17)) ((m18.2 87) (65536 * t + (((v1 * 4) + 4) + v17)))) j ∧ (upI (m18.2 87) (65536 * t + ((v1 * 4) + v17)) ((m18.2 87) (65536 * t + (((v1 * 4) + 4) + v17)))) j ≤ 9223372036854775807 := upI_rg (Tm18.2.1 87) ⟨by omega, by omega⟩
              refine K_lastt (a' := [(85, upI (m18.2 85) (65536 * t + ((v1 * 4) + v17)) ((m18.2 85) (65536 * t + (((v1 * 4) + 4) + v17)))), (86, upI (m18.2 86) (65536 * t + ((v1 * 4) + v17)) ((m18.2 86) (65536 * t + (((v1 * 4) + 4) + v17)))), (87, upI (m18.2 87) (65536 * t + ((v1 * 4) + v17)) ((m18.2 87) (65536 * t + (((v1 * 4) + 4) + v17))))]) 85 8 (m18.2 87) rfl rfl rfl (by omega) (by omega) (by omega) (show ((v1 * 4) + v17) < (288 : Int) by omega) rfl rfl ?_
              refine T_iinc 88 [(3, .int (i32 (v17 + 1))), (0, .ref (tbr t)), (2, .int (i32 v1))] rfl rfl (by decide) rfl rfl ?_
              refine T_goto 14 rfl (fun _ => rfl) ?_
              refine Tm_lv (a := [(0, .ref (tbr t)), (2, .int (i32 v1)), (3, .int (i32 (v17 + 1)))]) rfl rfl ⟨rfl, rfl, rfl, trivial⟩ ?_
              exact ih26 (v17 + 1) (mO m18 [] [(85, upI (m18.2 85) (65536 * t + ((v1 * 4) + v17)) ((m18.2 85) (65536 * t + (((v1 * 4) + 4) + v17)))), (86, upI (m18.2 86) (65536 * t + ((v1 * 4) + v17)) ((m18.2 86) (65536 * t + (((v1 * 4) + 4) + v17)))), (87, upI (m18.2 87) (65536 * t + ((v1 * 4) + v17)) ((m18.2 87) (65536 * t + (((v1 * 4) + 4) + v17))))]) (r32 (by omega) (by omega)) (KTy_mO Tm18 rfl rfl trivial ⟨G33, G35, G37, trivial⟩) (fr_m (fr_s Fm18 (fr_m fr_0 rfl rfl) rfl rfl) rfl rfl) (show 0 ≤ (v17 + 1) by omega) (show (v17 + 1) ≤ 4 by omega) (show 4 - (v17 + 1) < (n25 : Int) by omega)
        refine Tm_lv (a := [(0, .ref (tbr t)), (2, .int (i32 v1)), (3, .int (i32 0))]) rfl rfl ⟨rfl, rfl, rfl, trivial⟩ ?_
        exact L14_19 ((4 - (0 : Int) : Int) + 1).toNat 0 (mO m2 [] []) ⟨by decide, by decide⟩ Tm2 (fr_m fr_0 rfl rfl) (show 0 ≤ (0 : Int) by omega) (show (0 : Int) ≤ 4 by omega) (show 4 - (0 : Int) < ((((4 - (0 : Int) : Int) + 1).toNat : Nat) : Int) by omega)
  refine Tm_lv (a := [(0, .ref (tbr t)), (2, .int (i32 e))]) rfl rfl ⟨rfl, rfl, trivial⟩ ?_
  exact L2_3 ((80 - e : Int) + 1).toNat e (mO m [] []) (r32 (by omega) (by omega)) hT (fr_m fr_0 rfl rfl) (show 0 ≤ e by omega) (show e ≤ 71 by omega) (show 0 ≤ e ∧ e ≤ 72 by omega) (show CHp t ((m.2 78) t) e (m.2 89) (m.2 89) by first | exact CH_0 | exact CH_s hCH (by omega) (by omega) rfl rfl) (show 80 - e < ((((80 - e : Int) + 1).toNat : Nat) : Int) by omega)
def fF_sp_add : List Nat := [225]
def fA_sp_add : List Nat := [52, 53, 54, 55, 56, 58]
def Q_sp_add (m : mR) (c : Nat → Option am_C) (N : Nat) (k : Int) (p : Int) (b : Int) : ag_Re af_T → Prop := fun R => (∃ (M : mR) (r : Int), KTy M ∧ fr fF_sp_add fA_sp_add m M ∧ (0 ≤ r ∧ r ≤ 47) ∧ (r = (m.1 225)) ∧ ((M.1 225) = (m.1 225) + 1) ∧ ((M.2 52) = upI (m.2 52) (m.1 225) k) ∧ ((M.2 55) = upI (m.2 55) (m.1 225) (-1)) ∧ ((M.2 56) = upI (m.2 56) (m.1 225) (-1)) ∧ ((M.2 58) = upI (m.2 58) (m.1 225) (-1)) ∧ R = (.inl (some (.int (i32 r))), (khp M c, N), 0, 0))
set_option maxHeartbeats 3000000 in
theorem c_sp_add (w : wX) (m : mR) (c : Nat → Option am_C) (N D : Nat) (hD : 1 ≤ D) (hT : KTy m) (k : Int) (p : Int) (b : Int) (qk : R32 k) (qp : R32 p) (qb : R32 b) (p0 : (m.1 225) ≤ 47) (p1 : 0 ≤ k ∧ k ≤ 2) (p2 : (-1) ≤ p ∧ p ≤ 47) (p3 : (-1) ≤ b ∧ b ≤ 1) : TC w D 139 [.ref 59, .int (i32 k), .int (i32 p), .int (i32 b)] (khp m c, N) (Q_sp_add m c N k p b) := by
  obtain ⟨D, rfl⟩ : ∃ k, D = k + 1 := ⟨D - 1, by omega⟩
  obtain ⟨qka, qkb⟩ := id qk
  obtain ⟨qpa, qpb⟩ := id qp
  obtain ⟨qba, qbb⟩ := id qb
  have f225 : 0 ≤ m.1 225 ∧ m.1 225 ≤ 48 := hT.1 225
  refine Tc_of rfl ?_
  rw [show (khp m c, N) = (khp (mO m [] []) c, N) from by rw [mO_nil m]]
  show TT w D pm_139 (0, [(0, .ref 59), (1, .int (i32 k)), (2, .int (i32 p)), (3, .int (i32 b))], [], (khp (mO m [] []) c, N), 0, 0) (Q_sp_add m c N k p b)
  refine T_ld 1 (.ref 59) rfl (fun _ => rfl) ?_
  refine K_gf 4 (.int (i32 (m.1 225))) rfl rfl kd_59 rfl rfl rfl ?_
  refine T_sto 6 [(4, .int (i32 (m.1 225))), (0, .ref 59), (1, .int (i32 k)), (2, .int (i32 p)), (3, .int (i32 b))] rfl (fun _ => rfl) ?_
  refine T_ld 7 (.ref 59) rfl (fun _ => rfl) ?_
  refine K_gf 10 (.ref 60) rfl rfl kd_59 rfl rfl rfl ?_
  refine T_ld 12 (.int (i32 (m.1 225))) rfl (fun _ => rfl) ?_
  refine T_ld 13 (.int (i32 k)) rfl (fun _ => rfl) ?_
  have G1 : ∀ j, 0 ≤ (upI (m.2 52) (m.1 225) k) j ∧ (upI (m.2 52) (m.1 225) k) j ≤ 2 := upI_rg (hT.2.1 52) ⟨by omega, by omega⟩
  refine K_iast (a' := [(52, upI (m.2 52) (m.1 225) k)]) 14 52 (m.2 52) rfl rfl rfl (by omega) (show (m.1 225) < (48 : Int) by omega) rfl rfl ?_
  refine T_ld 15 (.ref 59) rfl (fun _ => rfl) ?_
  refine K_gf 18 (.ref 61) rfl rfl kd_59 rfl rfl rfl ?_
  refine T_ld 20 (.int (i32 (m.1 225))) rfl (fun _ => rfl) ?_
  refine T_ld 21 (.int (i32 p)) rfl (fun _ => rfl) ?_
  have G2 : ∀ j, (-1) ≤ (upI (m.2 53) (m.1 225) p) j ∧ (upI (m.2 53) (m.1 225) p) j ≤ 47 := upI_rg (hT.2.1 53) ⟨by omega, by omega⟩
  refine K_iast (a' := [(52, upI (m.2 52) (m.1 225) k), (53, upI (m.2 53) (m.1 225) p)]) 22 53 (m.2 53) rfl rfl rfl (by omega) (show (m.1 225) < (48 : Int) by omega) rfl rfl ?_
  refine T_ld 23 (.ref 59) rfl (fun _ => rfl) ?_
  refine K_gf 26 (.ref 62) rfl rfl kd_59 rfl rfl rfl ?_
  refine T_ld 28 (.int (i32 (m.1 225))) rfl (fun _ => rfl) ?_
  refine T_ld 29 (.int (i32 b)) rfl (fun _ => rfl) ?_
  have G3 : ∀ j, (-1) ≤ (upI (m.2 54) (m.1 225) b) j ∧ (upI (m.2 54) (m.1 225) b) j ≤ 1 := upI_rg (hT.2.1 54) ⟨by omega, by omega⟩
  refine K_iast (a' := [(52, upI (m.2 52) (m.1 225) k), (53, upI (m.2 53) (m.1 225) p), (54, upI (m.2 54) (m.1 225) b)]) 30 54 (m.2 54) rfl rfl rfl (by omega) (show (m.1 225) < (48 : Int) by omega) rfl rfl ?_
  refine T_ld 31 (.ref 59) rfl (fun _ => rfl) ?_
  refine K_gf 34 (.ref 63) rfl rfl kd_59 rfl rfl rfl ?_
  refine T_ld 36 (.int (i32 (m.1 225))) rfl (fun _ => rfl) ?_
  refine T_ld 37 (.int (i32 (-1))) rfl (fun _ => rfl) ?_
  have G4 : ∀ j, (-1) ≤ (upI (m.2 55) (m.1 225) (-1)) j ∧ (upI (m.2 55) (m.1 225) (-1)) j ≤ 7 := upI_rg (hT.2.1 55) ⟨by omega, by omega⟩
  refine K_iast (a' := [(52, upI (m.2 52) (m.1 225) k), (53, upI (m.2 53) (m.1 225) p), (54, upI (m.2 54) (m.1 225) b), (55, upI (m.2 55) (m.1 225) (-1))]) 38 55 (m.2 55) rfl rfl rfl (by omega) (show (m.1 225) < (48 : Int) by omega) rfl rfl ?_
  refine T_ld 39 (.ref 59) rfl (fun _ => rfl) ?_
  refine K_gf 42 (.ref 64) rfl rfl kd_59 rfl rfl rfl ?_
  refine T_ld 44 (.int (i32 (m.1 225))) rfl (fun _ => rfl) ?_
  refine T_ld 45 (.int (i32 (-1))) rfl (fun _ => rfl) ?_
  have G5 : ∀ j, (-1) ≤ (upI (m.2 56) (m.1 225) (-1)) j ∧ (upI (m.2 56) (m.1 225) (-1)) j ≤ 239 := upI_rg (hT.2.1 56) ⟨by omega, by omega⟩
  refine K_iast (a' := [(52, upI (m.2 52) (m.1 225) k), (53, upI (m.2 53) (m.1 225) p), (54, upI (m.2 54) (m.1 225) b), (55, upI (m.2 55) (m.1 225) (-1)), (56, upI (m.2 56) (m.1 225) (-1))]) 46 56 (m.2 56) rfl rfl rfl (by omega) (show (m.1 225) < (48 : Int) by omega) rfl rfl ?_
  refine T_ld 47 (.ref 59) rfl (fun _ => rfl) ?_
  refine K_gf 50 (.ref 66) rfl rfl kd_59 rfl rfl rfl ?_
  refine T_ld 52 (.int (i32 (m.1 225))) rfl (fun _ => rfl) ?_
  refine T_ld 53 (.int (i32 (-1))) rfl (fun _ => rfl) ?_
  have G6 : ∀ j, (-1) ≤ (upI (m.2 58) (m.1 225) (-1)) j ∧ (upI (m.2 58) (m.1 225) (-1)) j ≤ 1089 := upI_rg (hT.2.1 58) ⟨by omega, by omega⟩
  refine K_iast (a' := [(52, upI (m.2 52) (m.1 225) k), (53, upI (m.2 53) (m.1 225) p), (54, upI (m.2 54) (m.1 225) b), (55, upI (m.2 55) (m.1 225) (-1)), (56, upI (m.2 56) (m.1 225) (-1)), (58, upI (m.2 58) (m.1 225) (-1))]) 54 58 (m.2 58) rfl rfl rfl (by omega) (show (m.1 225) < (48 : Int) by omega) rfl rfl ?_
  refine T_ld 55 (.ref 59) rfl (fun _ => rfl) ?_
  refine T_ld 56 (.ref 59) rfl (fun _ => rfl) ?_
  refine K_gf 59 (.int (i32 (m.1 225))) rfl rfl kd_59 rfl rfl rfl ?_
  refine T_ld 60 (.int (i32 1)) rfl (fun _ => rfl) ?_
  refine T_iadd 61 rfl rfl ?_
  refine K_pf (l' := [(225, (m.1 225) + 1)]) 64 ((m.1 225) + 1) rfl rfl kd_59 rfl rfl rfl rfl rfl rfl rfl ?_
  have g7 : 0 ≤ (m.1 225) + 1 ∧ (m.1 225) + 1 ≤ 48 := ⟨by omega, by omega⟩
  refine T_ld 66 (.int (i32 (m.1 225))) rfl (fun _ => rfl) ?_
  refine T_ret rfl (fun _ => rfl) ?_
  exact ⟨(mO m [(225, (m.1 225) + 1)] [(52, upI (m.2 52) (m.1 225) k), (53, upI (m.2 53) (m.1 225) p), (54, upI (m.2 54) (m.1 225) b), (55, upI (m.2 55) (m.1 225) (-1)), (56, upI (m.2 56) (m.1 225) (-1)), (58, upI (m.2 58) (m.1 225) (-1))]), (m.1 225), (KTy_mO hT rfl rfl ⟨g7, trivial⟩ ⟨G1, G2, G3, G4, G5, G6, trivial⟩), (fr_m fr_0 rfl rfl), ⟨by omega, by omega⟩, (show (m.1 225) = (m.1 225) by omega), (show ((m.1 225) + 1) = (m.1 225) + 1 by omega), (show (upI (m.2 52) (m.1 225) k) = upI (m.2 52) (m.1 225) k by rfl), (show (upI (m.2 55) (m.1 225) (-1)) = upI (m.2 55) (m.1 225) (-1) by rfl), (show (upI (m.2 56) (m.1 225) (-1)) = upI (m.2 56) (m.1 225) (-1) by rfl), (show (upI (m.2 58) (m.1 225) (-1)) = upI (m.2 58) (m.1 225) (-1) by rfl), rfl⟩
def Q_sp_applying (m : mR) (c : Nat → Option am_C) (N : Nat) (a : Int) : ag_Re af_T → Prop := fun R => (∃ (r : Int), ((-1) ≤ r ∧ r ≤ 47) ∧ (r < (m.1 225)) ∧ R = (.inl (some (.int (i32 r))), (khp m c, N), 0, 0))
set_option maxHeartbeats 3000000 in
theorem c_sp_applying (w : wX) (m : mR) (c : Nat → Option am_C) (N D : Nat) (hD : 1 ≤ D) (hT : KTy m) (a : Int) (qa : R32 a) : TC w D 142 [.ref 59, .int (i32 a)] (khp m c, N) (Q_sp_applying m c N a) := by
  obtain ⟨D, rfl⟩ : ∃ k, D = k + 1 := ⟨D - 1, by omega⟩
  obtain ⟨qaa, qab⟩ := id qa
  have f225 : 0 ≤ m.1 225 ∧ m.1 225 ≤ 48 := hT.1 225
  refine Tc_of rfl ?_
  rw [show (khp m c, N) = (khp (mO m [] []) c, N) from by rw [mO_nil m]]
  show TT w D pm_142 (0, [(0, .ref 59), (1, .int (i32 a))], [], (khp (mO m [] []) c, N), 0, 0) (Q_sp_applying m c N a)
  refine T_ld 1 (.int (i32 0)) rfl (fun _ => rfl) ?_
  refine T_sto 2 [(2, .int (i32 0)), (0, .ref 59), (1, .int (i32 a))] rfl (fun _ => rfl) ?_
  have L2_2 : ∀ (n7 : Nat) (v1 : Int), (R32 v1) → (0 ≤ v1) → (v1 ≤ (m.1 225)) → (m.1 225) - v1 < (n7 : Int) → TT w D pm_142 (2, [(0, .ref 59), (1, .int (i32 a)), (2, .int (i32 v1))], [], (khp (mO m [] []) c, N), 0, 0) (Q_sp_applying m c N a) := by
    intro n7
    induction n7 with
    | zero =>
      intro v1 q5 ic3 ic4 hmu
      obtain ⟨q5a, q5b⟩ := id q5
      exfalso
      omega
    | succ n7 ih =>
      intro v1 q5 ic3 ic4 hmu
      obtain ⟨q5a, q5b⟩ := id q5
      have ih8 := ih
      refine T_ld 3 (.int (i32 v1)) rfl (fun _ => rfl) ?_
      refine T_ld 4 (.ref 59) rfl (fun _ => rfl) ?_
      refine K_gf 7 (.int (i32 (m.1 225))) rfl rfl kd_59 rfl rfl rfl ?_
      refine T_icmp 28 10 rfl rfl rfl (r32 (by omega) (by omega)) (r32 (by omega) (by omega)) (fun (h9 : (m.1 225) ≤ v1) => ?_) (fun (h9 : ¬ ((m.1 225) ≤ v1)) => ?_)
      · skip
        refine T_ld 29 (.int (i32 (-1))) rfl (fun _ => rfl) ?_
        refine T_ret rfl (fun _ => rfl) ?_
        exact ⟨(-1), ⟨by omega, by omega⟩, (show (-1 : Int) < (m.1 225) by omega), rfl⟩
      · skip
        refine T_ld 11 (.ref 59) rfl (fun _ => rfl) ?_
        refine K_gf 14 (.ref 63) rfl rfl kd_59 rfl rfl rfl ?_
        refine T_ld 15 (.int (i32 v1)) rfl (fun _ => rfl) ?_
        refine K_iald 16 55 (m.2 55) rfl rfl rfl (by omega) (show v1 < (48 : Int) by omega) rfl ?_
        have e10 : (-1) ≤ m.2 55 v1 ∧ m.2 55 v1 ≤ 7 := hT.2.1 55 v1
        refine T_ld 17 (.int (i32 a)) rfl (fun _ => rfl) ?_
        refine T_icmp 22 20 rfl rfl rfl (r32 (by omega) (by omega)) (r32 (by omega) (by omega)) (fun (h11 : (m.2 55) v1 ≠ a) => ?_) (fun (h11 : ¬ ((m.2 55) v1 ≠ a)) => ?_)
        · skip
          refine T_iinc 25 [(2, .int (i32 (v1 + 1))), (0, .ref 59), (1, .int (i32 a))] rfl rfl (by decide) rfl rfl ?_
          refine T_goto 2 rfl (fun _ => rfl) ?_
          refine Tm_lv (a := [(0, .ref 59), (1, .int (i32 a)), (2, .int (i32 (v1 + 1)))]) rfl rfl ⟨rfl, rfl, rfl, trivial⟩ ?_
          exact ih8 (v1 + 1) (r32 (by omega) (by omega)) (show 0 ≤ (v1 + 1) by omega) (show (v1 + 1) ≤ (m.1 225) by omega) (show (m.1 225) - (v1 + 1) < (n7 : Int) by omega)
        · skip
          refine T_ld 21 (.int (i32 v1)) rfl (fun _ => rfl) ?_
          refine T_ret rfl (fun _ => rfl) ?_
          exact ⟨v1, ⟨by omega, by omega⟩, (show v1 < (m.1 225) by omega), rfl⟩
  refine Tm_lv (a := [(0, .ref 59), (1, .int (i32 a)), (2, .int (i32 0))]) rfl rfl ⟨rfl, rfl, rfl, trivial⟩ ?_
  exact L2_2 (((m.1 225) - (0 : Int) : Int) + 1).toNat 0 ⟨by decide, by decide⟩ (show 0 ≤ (0 : Int) by omega) (show (0 : Int) ≤ (m.1 225) by omega) (show (m.1 225) - (0 : Int) < (((((m.1 225) - (0 : Int) : Int) + 1).toNat : Nat) : Int) by omega)
def Q_meet_wr (m : mR) (c : Nat → Option am_C) (N : Nat) (i : Int) (j : Int) : ag_Re af_T → Prop := fun R => (∃ (r : Int), (0 ≤ r ∧ r ≤ 1) ∧ R = (.inl (some (.int (i32 r))), (khp m c, N), 0, 0))
set_option maxHeartbeats 3000000 in
theorem c_meet_wr (w : wX) (m : mR) (c : Nat → Option am_C) (N D : Nat) (hD : 1 ≤ D) (hT : KTy m) (i : Int) (j : Int) (qi : R32 i) (qj : R32 j) (p0 : 0 ≤ i ∧ i ≤ 47) (p1 : 0 ≤ j ∧ j ≤ 47) : TC w D 160 [.ref 59, .ref 69, .int (i32 i), .ref 68, .int (i32 j)] (khp m c, N) (Q_meet_wr m c N i j) := by
  obtain ⟨D, rfl⟩ : ∃ k, D = k + 1 := ⟨D - 1, by omega⟩
  obtain ⟨qia, qib⟩ := id qi
  obtain ⟨qja, qjb⟩ := id qj
  refine Tc_of rfl ?_
  rw [show (khp m c, N) = (khp (mO m [] []) c, N) from by rw [mO_nil m]]
  show TT w D pm_160 (0, [(0, .ref 59), (1, .ref 69), (2, .int (i32 i)), (3, .ref 68), (4, .int (i32 j))], [], (khp (mO m [] []) c, N), 0, 0) (Q_meet_wr m c N i j)
  refine T_ld 1 (.int (i32 0)) rfl (fun _ => rfl) ?_
  refine T_sto 3 [(5, .int (i32 0)), (0, .ref 59), (1, .ref 69), (2, .int (i32 i)), (3, .ref 68), (4, .int (i32 j))] rfl (fun _ => rfl) ?_
  have L3_2 : ∀ (n7 : Nat) (v1 : Int), (R32 v1) → (0 ≤ v1) → (v1 ≤ 4) → 4 - v1 < (n7 : Int) → TT w D pm_160 (3, [(0, .ref 59), (1, .ref 69), (2, .int (i32 i)), (3, .ref 68), (4, .int (i32 j)), (5, .int (i32 v1))], [], (khp (mO m [] []) c, N), 0, 0) (Q_meet_wr m c N i j) := by
    intro n7
    induction n7 with
    | zero =>
      intro v1 q5 ic3 ic4 hmu
      obtain ⟨q5a, q5b⟩ := id q5
      exfalso
      omega
    | succ n7 ih =>
      intro v1 q5 ic3 ic4 hmu
      obtain ⟨q5a, q5b⟩ := id q5
      have ih8 := ih
      refine T_ld 5 (.int (i32 v1)) rfl (fun _ => rfl) ?_
      refine T_ld 6 (.int (i32 4)) rfl (fun _ => rfl) ?_
      refine T_icmp 40 9 rfl rfl rfl (r32 (by omega) (by omega)) ⟨by decide, by decide⟩ (fun (h9 : (4 : Int) ≤ v1) => ?_) (fun (h9 : ¬ ((4 : Int) ≤ v1)) => ?_)
      · skip
        refine T_ld 41 (.int (i32 0)) rfl (fun _ => rfl) ?_
        refine T_ret rfl (fun _ => rfl) ?_
        exact ⟨0, ⟨by omega, by omega⟩, rfl⟩
      · skip
        refine T_ld 10 (.ref 69) rfl (fun _ => rfl) ?_
        refine T_ld 11 (.int (i32 i)) rfl (fun _ => rfl) ?_
        refine T_ld 12 (.int (i32 4)) rfl (fun _ => rfl) ?_
        refine T_imul 13 rfl rfl ?_
        refine T_ld 15 (.int (i32 v1)) rfl (fun _ => rfl) ?_
        refine T_iadd 16 rfl rfl ?_
        refine K_lald 17 61 (m.2 61) rfl rfl rfl (by omega) (show ((i * 4) + v1) < (192 : Int) by omega) rfl ?_
        have e10 : (-9223372036854775808) ≤ m.2 61 ((i * 4) + v1) ∧ m.2 61 ((i * 4) + v1) ≤ 9223372036854775807 := hT.2.1 61 ((i * 4) + v1)
        refine T_ld 18 (.ref 68) rfl (fun _ => rfl) ?_
        refine T_ld 20 (.int (i32 j)) rfl (fun _ => rfl) ?_
        refine T_ld 21 (.int (i32 4)) rfl (fun _ => rfl) ?_
        refine T_imul 22 rfl rfl ?_
        refine T_ld 24 (.int (i32 v1)) rfl (fun _ => rfl) ?_
        refine T_iadd 25 rfl rfl ?_
        refine K_lald 26 60 (m.2 60) rfl rfl rfl (by omega) (show ((j * 4) + v1) < (192 : Int) by omega) rfl ?_
        have e11 : (-9223372036854775808) ≤ m.2 60 ((j * 4) + v1) ∧ m.2 60 ((j * 4) + v1) ≤ 9223372036854775807 := hT.2.1 60 ((j * 4) + v1)
        refine T_lhv 27 _ rfl (fun _ => rfl) (fun z12 h13 => ?_)
        obtain ⟨h13a, h13b⟩ := h13
        refine T_ld 28 (.long (i64 0)) rfl (fun _ => rfl) ?_
        refine T_lcmp 29 rfl rfl (r64 (by omega) (by omega)) ⟨by decide, by decide⟩ (fun z14 h15 => ?_)
        obtain ⟨h15a, h15b, h15c, h15d, h15e⟩ := h15
        refine T_if 34 32 rfl rfl rfl (r32 (by omega) (by omega)) (fun (h16 : z14 = 0) => ?_) (fun (h16 : ¬ (z14 = 0)) => ?_)
        · skip
          have hl17 : z12 = 0 := by omega
          refine T_iinc 37 [(5, .int (i32 (v1 + 1))), (0, .ref 59), (1, .ref 69), (2, .int (i32 i)), (3, .ref 68), (4, .int (i32 j))] rfl rfl (by decide) rfl rfl ?_
          refine T_goto 3 rfl (fun _ => rfl) ?_
          refine Tm_lv (a := [(0, .ref 59), (1, .ref 69), (2, .int (i32 i)), (3, .ref 68), (4, .int (i32 j)), (5, .int (i32 (v1 + 1)))]) rfl rfl ⟨rfl, rfl, rfl, rfl, rfl, rfl, trivial⟩ ?_
          exact ih8 (v1 + 1) (r32 (by omega) (by omega)) (show 0 ≤ (v1 + 1) by omega) (show (v1 + 1) ≤ 4 by omega) (show 4 - (v1 + 1) < (n7 : Int) by omega)
        · skip
          have hl18 : z12 ≠ 0 := by omega
          refine T_ld 33 (.int (i32 1)) rfl (fun _ => rfl) ?_
          refine T_ret rfl (fun _ => rfl) ?_
          exact ⟨1, ⟨by omega, by omega⟩, rfl⟩
  refine Tm_lv (a := [(0, .ref 59), (1, .ref 69), (2, .int (i32 i)), (3, .ref 68), (4, .int (i32 j)), (5, .int (i32 0))]) rfl rfl ⟨rfl, rfl, rfl, rfl, rfl, rfl, trivial⟩ ?_
  exact L3_2 ((4 - (0 : Int) : Int) + 1).toNat 0 ⟨by decide, by decide⟩ (show 0 ≤ (0 : Int) by omega) (show (0 : Int) ≤ 4 by omega) (show 4 - (0 : Int) < ((((4 - (0 : Int) : Int) + 1).toNat : Nat) : Int) by omega)
def Q_meet_ww (m : mR) (c : Nat → Option am_C) (N : Nat) (i : Int) (j : Int) : ag_Re af_T → Prop := fun R => (∃ (r : Int), (0 ≤ r ∧ r ≤ 1) ∧ R = (.inl (some (.int (i32 r))), (khp m c, N), 0, 0))
set_option maxHeartbeats 3000000 in
theorem c_meet_ww (w : wX) (m : mR) (c : Nat → Option am_C) (N D : Nat) (hD : 1 ≤ D) (hT : KTy m) (i : Int) (j : Int) (qi : R32 i) (qj : R32 j) (p0 : 0 ≤ i ∧ i ≤ 47) (p1 : 0 ≤ j ∧ j ≤ 47) : TC w D 160 [.ref 59, .ref 69, .int (i32 i), .ref 69, .int (i32 j)] (khp m c, N) (Q_meet_ww m c N i j) := by
  obtain ⟨D, rfl⟩ : ∃ k, D = k + 1 := ⟨D - 1, by omega⟩
  obtain ⟨qia, qib⟩ := id qi
  obtain ⟨qja, qjb⟩ := id qj
  refine Tc_of rfl ?_
  rw [show (khp m c, N) = (khp (mO m [] []) c, N) from by rw [mO_nil m]]
  show TT w D pm_160 (0, [(0, .ref 59), (1, .ref 69), (2, .int (i32 i)), (3, .ref 69), (4, .int (i32 j))], [], (khp (mO m [] []) c, N), 0, 0) (Q_meet_ww m c N i j)
  refine T_ld 1 (.int (i32 0)) rfl (fun _ => rfl) ?_
  refine T_sto 3 [(5, .int (i32 0)), (0, .ref 59), (1, .ref 69), (2, .int (i32 i)), (3, .ref 69), (4, .int (i32 j))] rfl (fun _ => rfl) ?_
  have L3_2 : ∀ (n7 : Nat) (v1 : Int), (R32 v1) → (0 ≤ v1) → (v1 ≤ 4) → 4 - v1 < (n7 : Int) → TT w D pm_160 (3, [(0, .ref 59), (1, .ref 69), (2, .int (i32 i)), (3, .ref 69), (4, .int (i32 j)), (5, .int (i32 v1))], [], (khp (mO m [] []) c, N), 0, 0) (Q_meet_ww m c N i j) := by
    intro n7
    induction n7 with
    | zero =>
      intro v1 q5 ic3 ic4 hmu
      obtain ⟨q5a, q5b⟩ := id q5
      exfalso
      omega
    | succ n7 ih =>
      intro v1 q5 ic3 ic4 hmu
      obtain ⟨q5a, q5b⟩ := id q5
      have ih8 := ih
      refine T_ld 5 (.int (i32 v1)) rfl (fun _ => rfl) ?_
      refine T_ld 6 (.int (i32 4)) rfl (fun _ => rfl) ?_
      refine T_icmp 40 9 rfl rfl rfl (r32 (by omega) (by omega)) ⟨by decide, by decide⟩ (fun (h9 : (4 : Int) ≤ v1) => ?_) (fun (h9 : ¬ ((4 : Int) ≤ v1)) => ?_)
      · skip
        refine T_ld 41 (.int (i32 0)) rfl (fun _ => rfl) ?_
        refine T_ret rfl (fun _ => rfl) ?_
        exact ⟨0, ⟨by omega, by omega⟩, rfl⟩
      · skip
        refine T_ld 10 (.ref 69) rfl (fun _ => rfl) ?_
        refine T_ld 11 (.int (i32 i)) rfl (fun _ => rfl) ?_
        refine T_ld 12 (.int (i32 4)) rfl (fun _ => rfl) ?_
        refine T_imul 13 rfl rfl ?_
        refine T_ld 15 (.int (i32 v1)) rfl (fun _ => rfl) ?_
        refine T_iadd 16 rfl rfl ?_
        refine K_lald 17 61 (m.2 61) rfl rfl rfl (by omega) (show ((i * 4) + v1) < (192 : Int) by omega) rfl ?_
        have e10 : (-9223372036854775808) ≤ m.2 61 ((i * 4) + v1) ∧ m.2 61 ((i * 4) + v1) ≤ 9223372036854775807 := hT.2.1 61 ((i * 4) + v1)
        refine T_ld 18 (.ref 69) rfl (fun _ => rfl) ?_
        refine T_ld 20 (.int (i32 j)) rfl (fun _ => rfl) ?_
        refine T_ld 21 (.int (i32 4)) rfl (fun _ => rfl) ?_
        refine T_imul 22 rfl rfl ?_
        refine T_ld 24 (.int (i32 v1)) rfl (fun _ => rfl) ?_
        refine T_iadd 25 rfl rfl ?_
        refine K_lald 26 61 (m.2 61) rfl rfl rfl (by omega) (show ((j * 4) + v1) < (192 : Int) by omega) rfl ?_
        have e11 : (-9223372036854775808) ≤ m.2 61 ((j * 4) + v1) ∧ m.2 61 ((j * 4) + v1) ≤ 9223372036854775807 := hT.2.1 61 ((j * 4) + v1)
        refine T_lhv 27 _ rfl (fun _ => rfl) (fun z12 h13 => ?_)
        obtain ⟨h13a, h13b⟩ := h13
        refine T_ld 28 (.long (i64 0)) rfl (fun _ => rfl) ?_
        refine T_lcmp 29 rfl rfl (r64 (by omega) (by omega)) ⟨by decide, by decide⟩ (fun z14 h15 => ?_)
        obtain ⟨h15a, h15b, h15c, h15d, h15e⟩ := h15
        refine T_if 34 32 rfl rfl rfl (r32 (by omega) (by omega)) (fun (h16 : z14 = 0) => ?_) (fun (h16 : ¬ (z14 = 0)) => ?_)
        · skip
          have hl17 : z12 = 0 := by omega
          refine T_iinc 37 [(5, .int (i32 (v1 + 1))), (0, .ref 59), (1, .ref 69), (2, .int (i32 i)), (3, .ref 69), (4, .int (i32 j))] rfl rfl (by decide) rfl rfl ?_
          refine T_goto 3 rfl (fun _ => rfl) ?_
          refine Tm_lv (a := [(0, .ref 59), (1, .ref 69), (2, .int (i32 i)), (3, .ref 69), (4, .int (i32 j)), (5, .int (i32 (v1 + 1)))]) rfl rfl ⟨rfl, rfl, rfl, rfl, rfl, rfl, trivial⟩ ?_
          exact ih8 (v1 + 1) (r32 (by omega) (by omega)) (show 0 ≤ (v1 + 1) by omega) (show (v1 + 1) ≤ 4 by omega) (show 4 - (v1 + 1) < (n7 : Int) by omega)
        · skip
          have hl18 : z12 ≠ 0 := by omega
          refine T_ld 33 (.int (i32 1)) rfl (fun _ => rfl) ?_
          refine T_ret rfl (fun _ => rfl) ?_
          exact ⟨1, ⟨by omega, by omega⟩, rfl⟩
  refine Tm_lv (a := [(0, .ref 59), (1, .ref 69), (2, .int (i32 i)), (3, .ref 69), (4, .int (i32 j)), (5, .int (i32 0))]) rfl rfl ⟨rfl, rfl, rfl, rfl, rfl, rfl, trivial⟩ ?_
  exact L3_2 ((4 - (0 : Int) : Int) + 1).toNat 0 ⟨by decide, by decide⟩ (show 0 ≤ (0 : Int) by omega) (show (0 : Int) ≤ 4 by omega) (show 4 - (0 : Int) < ((((4 - (0 : Int) : Int) + 1).toNat : Nat) : Int) by omega)
def Q_meet_rw (m : mR) (c : Nat → Option am_C) (N : Nat) (i : Int) (j : Int) : ag_Re af_T → Prop := fun R => (∃ (r : Int), (0 ≤ r ∧ r ≤ 1) ∧ R = (.inl (some (.int (i32 r))), (khp m c, N), 0, 0))
set_option maxHeartbeats 3000000 in
theorem c_meet_rw (w : wX) (m : mR) (c : Nat → Option am_C) (N D : Nat) (hD : 1 ≤ D) (hT : KTy m) (i : Int) (j : Int) (qi : R32 i) (qj : R32 j) (p0 : 0 ≤ i ∧ i ≤ 47) (p1 : 0 ≤ j ∧ j ≤ 47) : TC w D 160 [.ref 59, .ref 68, .int (i32 i), .ref 69, .int (i32 j)] (khp m c, N) (Q_meet_rw m c N i j) := by
  obtain ⟨D, rfl⟩ : ∃ k, D = k + 1 := ⟨D - 1, by omega⟩
  obtain ⟨qia, qib⟩ := id qi
  obtain ⟨qja, qjb⟩ := id qj
  refine Tc_of rfl ?_
  rw [show (khp m c, N) = (khp (mO m [] []) c, N) from by rw [mO_nil m]]
  show TT w D pm_160 (0, [(0, .ref 59), (1, .ref 68), (2, .int (i32 i)), (3, .ref 69), (4, .int (i32 j))], [], (khp (mO m [] []) c, N), 0, 0) (Q_meet_rw m c N i j)
  refine T_ld 1 (.int (i32 0)) rfl (fun _ => rfl) ?_
  refine T_sto 3 [(5, .int (i32 0)), (0, .ref 59), (1, .ref 68), (2, .int (i32 i)), (3, .ref 69), (4, .int (i32 j))] rfl (fun _ => rfl) ?_
  have L3_2 : ∀ (n7 : Nat) (v1 : Int), (R32 v1) → (0 ≤ v1) → (v1 ≤ 4) → 4 - v1 < (n7 : Int) → TT w D pm_160 (3, [(0, .ref 59), (1, .ref 68), (2, .int (i32 i)), (3, .ref 69), (4, .int (i32 j)), (5, .int (i32 v1))], [], (khp (mO m [] []) c, N), 0, 0) (Q_meet_rw m c N i j) := by
    intro n7
    induction n7 with
    | zero =>
      intro v1 q5 ic3 ic4 hmu
      obtain ⟨q5a, q5b⟩ := id q5
      exfalso
      omega
    | succ n7 ih =>
      intro v1 q5 ic3 ic4 hmu
      obtain ⟨q5a, q5b⟩ := id q5
      have ih8 := ih
      refine T_ld 5 (.int (i32 v1)) rfl (fun _ => rfl) ?_
      refine T_ld 6 (.int (i32 4)) rfl (fun _ => rfl) ?_
      refine T_icmp 40 9 rfl rfl rfl (r32 (by omega) (by omega)) ⟨by decide, by decide⟩ (fun (h9 : (4 : Int) ≤ v1) => ?_) (fun (h9 : ¬ ((4 : Int) ≤ v1)) => ?_)
      · skip
        refine T_ld 41 (.int (i32 0)) rfl (fun _ => rfl) ?_
        refine T_ret rfl (fun _ => rfl) ?_
        exact ⟨0, ⟨by omega, by omega⟩, rfl⟩
      · skip
        refine T_ld 10 (.ref 68) rfl (fun _ => rfl) ?_
        refine T_ld 11 (.int (i32 i)) rfl (fun _ => rfl) ?_
        refine T_ld 12 (.int (i32 4)) rfl (fun _ => rfl) ?_
        refine T_imul 13 rfl rfl ?_
        refine T_ld 15 (.int (i32 v1)) rfl (fun _ => rfl) ?_
        refine T_iadd 16 rfl rfl ?_
        refine K_lald 17 60 (m.2 60) rfl rfl rfl (by omega) (show ((i * 4) + v1) < (192 : Int) by omega) rfl ?_
        have e10 : (-9223372036854775808) ≤ m.2 60 ((i * 4) + v1) ∧ m.2 60 ((i * 4) + v1) ≤ 9223372036854775807 := hT.2.1 60 ((i * 4) + v1)
        refine T_ld 18 (.ref 69) rfl (fun _ => rfl) ?_
        refine T_ld 20 (.int (i32 j)) rfl (fun _ => rfl) ?_
        refine T_ld 21 (.int (i32 4)) rfl (fun _ => rfl) ?_
        refine T_imul 22 rfl rfl ?_
        refine T_ld 24 (.int (i32 v1)) rfl (fun _ => rfl) ?_
        refine T_iadd 25 rfl rfl ?_
        refine K_lald 26 61 (m.2 61) rfl rfl rfl (by omega) (show ((j * 4) + v1) < (192 : Int) by omega) rfl ?_
        have e11 : (-9223372036854775808) ≤ m.2 61 ((j * 4) + v1) ∧ m.2 61 ((j * 4) + v1) ≤ 9223372036854775807 := hT.2.1 61 ((j * 4) + v1)
        refine T_lhv 27 _ rfl (fun _ => rfl) (fun z12 h13 => ?_)
        obtain ⟨h13a, h13b⟩ := h13
        refine T_ld 28 (.long (i64 0)) rfl (fun _ => rfl) ?_
        refine T_lcmp 29 rfl rfl (r64 (by omega) (by omega)) ⟨by decide, by decide⟩ (fun z14 h15 => ?_)
        obtain ⟨h15a, h15b, h15c, h15d, h15e⟩ := h15
        refine T_if 34 32 rfl rfl rfl (r32 (by omega) (by omega)) (fun (h16 : z14 = 0) => ?_) (fun (h16 : ¬ (z14 = 0)) => ?_)
        · skip
          have hl17 : z12 = 0 := by omega
          refine T_iinc 37 [(5, .int (i32 (v1 + 1))), (0, .ref 59), (1, .ref 68), (2, .int (i32 i)), (3, .ref 69), (4, .int (i32 j))] rfl rfl (by decide) rfl rfl ?_
          refine T_goto 3 rfl (fun _ => rfl) ?_
          refine Tm_lv (a := [(0, .ref 59), (1, .ref 68), (2, .int (i32 i)), (3, .ref 69), (4, .int (i32 j)), (5, .int (i32 (v1 + 1)))]) rfl rfl ⟨rfl, rfl, rfl, rfl, rfl, rfl, trivial⟩ ?_
          exact ih8 (v1 + 1) (r32 (by omega) (by omega)) (show 0 ≤ (v1 + 1) by omega) (show (v1 + 1) ≤ 4 by omega) (show 4 - (v1 + 1) < (n7 : Int) by omega)
        · skip
          have hl18 : z12 ≠ 0 := by omega
          refine T_ld 33 (.int (i32 1)) rfl (fun _ => rfl) ?_
          refine T_ret rfl (fun _ => rfl) ?_
          exact ⟨1, ⟨by omega, by omega⟩, rfl⟩
  refine Tm_lv (a := [(0, .ref 59), (1, .ref 68), (2, .int (i32 i)), (3, .ref 69), (4, .int (i32 j)), (5, .int (i32 0))]) rfl rfl ⟨rfl, rfl, rfl, rfl, rfl, rfl, trivial⟩ ?_
  exact L3_2 ((4 - (0 : Int) : Int) + 1).toNat 0 ⟨by decide, by decide⟩ (show 0 ≤ (0 : Int) by omega) (show (0 : Int) ≤ 4 by omega) (show 4 - (0 : Int) < ((((4 - (0 : Int) : Int) + 1).toNat : Nat) : Int) by omega)
def fF_mark_sp_writes : List Nat := []
def fA_mark_sp_writes : List Nat := [61]
def Q_mark_sp_writes (m : mR) (c : Nat → Option am_C) (N : Nat) (s : Int) (k : Int) : ag_Re af_T → Prop := fun R => (∃ (M : mR), KTy M ∧ fr fF_mark_sp_writes fA_mark_sp_writes m M ∧ R = (.inl (none), (khp M c, N), 0, 0))
set_option maxHeartbeats 3000000 in
theorem c_mark_sp_writes (w : wX) (m : mR) (c : Nat → Option am_C) (N D : Nat) (hD : 1 ≤ D) (hT : KTy m) (s : Int) (k : Int) (qs : R32 s) (qk : R32 k) (p0 : 0 ≤ s ∧ s ≤ 47) (p1 : 0 ≤ k ∧ k ≤ 220) : TC w D 153 [.ref 59, .ref 69, .int (i32 s), .int (i32 k)] (khp m c, N) (Q_mark_sp_writes m c N s k) := by
  obtain ⟨D, rfl⟩ : ∃ k, D = k + 1 := ⟨D - 1, by omega⟩
  obtain ⟨qsa, qsb⟩ := id qs
  obtain ⟨qka, qkb⟩ := id qk
  refine Tc_of rfl ?_
  rw [show (khp m c, N) = (khp (mO m [] []) c, N) from by rw [mO_nil m]]
  show TT w D pm_153 (0, [(0, .ref 59), (1, .ref 69), (2, .int (i32 s)), (3, .int (i32 k))], [], (khp (mO m [] []) c, N), 0, 0) (Q_mark_sp_writes m c N s k)
  refine T_ld 1 (.ref 69) rfl (fun _ => rfl) ?_
  refine T_ld 2 (.int (i32 s)) rfl (fun _ => rfl) ?_
  refine T_ld 3 (.int (i32 4)) rfl (fun _ => rfl) ?_
  refine T_imul 4 rfl rfl ?_
  refine T_ld 5 (.int (i32 k)) rfl (fun _ => rfl) ?_
  refine T_ld 7 (.int (i32 64)) rfl (fun _ => rfl) ?_
  refine T_idiv 8 rfl rfl (by omega) (by omega) (by omega) (by omega) ?_
  refine T_iadd 9 rfl rfl ?_
  refine T_dup2 10 rfl (fun _ => rfl) ?_
  refine K_lald 11 61 (m.2 61) rfl rfl rfl (by omega) (show ((s * 4) + (k / 64)) < (192 : Int) by omega) rfl ?_
  have e1 : (-9223372036854775808) ≤ (m.2 61) ((s * 4) + (k / 64)) ∧ (m.2 61) ((s * 4) + (k / 64)) ≤ 9223372036854775807 := (hT.2.1 61) ((s * 4) + (k / 64))
  refine T_ld 12 (.long (i64 1)) rfl (fun _ => rfl) ?_
  refine T_ld 13 (.int (i32 k)) rfl (fun _ => rfl) ?_
  refine T_ld 15 (.int (i32 64)) rfl (fun _ => rfl) ?_
  refine T_irem 16 rfl rfl (by omega) (by omega) (by omega) (by omega) ?_
  refine T_lhv 17 _ rfl (fun _ => rfl) (fun z2 h3 => ?_)
  obtain ⟨h3a, h3b⟩ := h3
  refine T_lhv 18 _ rfl (fun _ => rfl) (fun z4 h5 => ?_)
  obtain ⟨h5a, h5b⟩ := h5
  have G6 : ∀ j, (-9223372036854775808) ≤ (upI (m.2 61) ((s * 4) + (k / 64)) z4) j ∧ (upI (m.2 61) ((s * 4) + (k / 64)) z4) j ≤ 9223372036854775807 := upI_rg (hT.2.1 61) ⟨by omega, by omega⟩
  refine K_last (a' := [(61, upI (m.2 61) ((s * 4) + (k / 64)) z4)]) 19 61 (m.2 61) rfl rfl rfl (by omega) (show ((s * 4) + (k / 64)) < (192 : Int) by omega) rfl rfl ?_
  refine T_ret rfl (fun _ => rfl) ?_
  exact ⟨(mO m [] [(61, upI (m.2 61) ((s * 4) + (k / 64)) z4)]), (KTy_mO hT rfl rfl trivial ⟨G6, trivial⟩), (fr_m fr_0 rfl rfl), rfl⟩
def fF_mark_sp_reads : List Nat := []
def fA_mark_sp_reads : List Nat := [60]
def Q_mark_sp_reads (m : mR) (c : Nat → Option am_C) (N : Nat) (s : Int) (k : Int) : ag_Re af_T → Prop := fun R => (∃ (M : mR), KTy M ∧ fr fF_mark_sp_reads fA_mark_sp_reads m M ∧ R = (.inl (none), (khp M c, N), 0, 0))
set_option maxHeartbeats 3000000 in
theorem c_mark_sp_reads (w : wX) (m : mR) (c : Nat → Option am_C) (N D : Nat) (hD : 1 ≤ D) (hT : KTy m) (s : Int) (k : Int) (qs : R32 s) (qk : R32 k) (p0 : 0 ≤ s ∧ s ≤ 47) (p1 : 0 ≤ k ∧ k ≤ 220) : TC w D 153 [.ref 59, .ref 68, .int (i32 s), .int (i32 k)] (khp m c, N) (Q_mark_sp_reads m c N s k) := by
  obtain ⟨D, rfl⟩ : ∃ k, D = k + 1 := ⟨D - 1, by omega⟩
  obtain ⟨qsa, qsb⟩ := id qs
  obtain ⟨qka, qkb⟩ := id qk
  refine Tc_of rfl ?_
  rw [show (khp m c, N) = (khp (mO m [] []) c, N) from by rw [mO_nil m]]
  show TT w D pm_153 (0, [(0, .ref 59), (1, .ref 68), (2, .int (i32 s)), (3, .int (i32 k))], [], (khp (mO m [] []) c, N), 0, 0) (Q_mark_sp_reads m c N s k)
  refine T_ld 1 (.ref 68) rfl (fun _ => rfl) ?_
  refine T_ld 2 (.int (i32 s)) rfl (fun _ => rfl) ?_
  refine T_ld 3 (.int (i32 4)) rfl (fun _ => rfl) ?_
  refine T_imul 4 rfl rfl ?_
  refine T_ld 5 (.int (i32 k)) rfl (fun _ => rfl) ?_
  refine T_ld 7 (.int (i32 64)) rfl (fun _ => rfl) ?_
  refine T_idiv 8 rfl rfl (by omega) (by omega) (by omega) (by omega) ?_
  refine T_iadd 9 rfl rfl ?_
  refine T_dup2 10 rfl (fun _ => rfl) ?_
  refine K_lald 11 60 (m.2 60) rfl rfl rfl (by omega) (show ((s * 4) + (k / 64)) < (192 : Int) by omega) rfl ?_
  have e1 : (-9223372036854775808) ≤ (m.2 60) ((s * 4) + (k / 64)) ∧ (m.2 60) ((s * 4) + (k / 64)) ≤ 9223372036854775807 := (hT.2.1 60) ((s * 4) + (k / 64))
  refine T_ld 12 (.long (i64 1)) rfl (fun _ => rfl) ?_
  refine T_ld 13 (.int (i32 k)) rfl (fun _ => rfl) ?_
  refine T_ld 15 (.int (i32 64)) rfl (fun _ => rfl) ?_
  refine T_irem 16 rfl rfl (by omega) (by omega) (by omega) (by omega) ?_
  refine T_lhv 17 _ rfl (fun _ => rfl) (fun z2 h3 => ?_)
  obtain ⟨h3a, h3b⟩ := h3
  refine T_lhv 18 _ rfl (fun _ => rfl) (fun z4 h5 => ?_)
  obtain ⟨h5a, h5b⟩ := h5
  have G6 : ∀ j, (-9223372036854775808) ≤ (upI (m.2 60) ((s * 4) + (k / 64)) z4) j ∧ (upI (m.2 60) ((s * 4) + (k / 64)) z4) j ≤ 9223372036854775807 := upI_rg (hT.2.1 60) ⟨by omega, by omega⟩
  refine K_last (a' := [(60, upI (m.2 60) ((s * 4) + (k / 64)) z4)]) 19 60 (m.2 60) rfl rfl rfl (by omega) (show ((s * 4) + (k / 64)) < (192 : Int) by omega) rfl rfl ?_
  refine T_ret rfl (fun _ => rfl) ?_
  exact ⟨(mO m [] [(60, upI (m.2 60) ((s * 4) + (k / 64)) z4)]), (KTy_mO hT rfl rfl trivial ⟨G6, trivial⟩), (fr_m fr_0 rfl rfl), rfl⟩
def Q_sp_earliest (m : mR) (c : Nat → Option am_C) (N : Nat) (s : Int) (n : Int) (x : Int) (y : Int) : ag_Re af_T → Prop := fun R => (∃ (r : Int), ((-1) ≤ r ∧ r ≤ 11) ∧ (0 ≤ r → (m.2 63) r < 8) ∧ R = (.inl (some (.int (i32 r))), (khp m c, N), 0, 0))
set_option maxHeartbeats 3000000 in
theorem c_sp_earliest (w : wX) (m : mR) (c : Nat → Option am_C) (N D : Nat) (hD : 2 ≤ D) (hT : KTy m) (s : Int) (n : Int) (x : Int) (y : Int) (qs : R32 s) (qn : R32 n) (qx : R32 x) (qy : R32 y) (p0 : 0 ≤ s ∧ s ≤ 47) (p1 : 1 ≤ n ∧ n ≤ 12) : TC w D 159 [.ref 59, .int (i32 s), .int (i32 n), .int (i32 x), .int (i32 y)] (khp m c, N) (Q_sp_earliest m c N s n x y) := by
  obtain ⟨D, rfl⟩ : ∃ k, D = k + 1 := ⟨D - 1, by omega⟩
  obtain ⟨qsa, qsb⟩ := id qs
  obtain ⟨qna, qnb⟩ := id qn
  obtain ⟨qxa, qxb⟩ := id qx
  obtain ⟨qya, qyb⟩ := id qy
  refine Tc_of rfl ?_
  rw [show (khp m c, N) = (khp (mO m [] []) c, N) from by rw [mO_nil m]]
  show TT w D pm_159 (0, [(0, .ref 59), (1, .int (i32 s)), (2, .int (i32 n)), (3, .int (i32 x)), (4, .int (i32 y))], [], (khp (mO m [] []) c, N), 0, 0) (Q_sp_earliest m c N s n x y)
  refine T_ld 1 (.int (i32 0)) rfl (fun _ => rfl) ?_
  refine T_sto 3 [(5, .int (i32 0)), (0, .ref 59), (1, .int (i32 s)), (2, .int (i32 n)), (3, .int (i32 x)), (4, .int (i32 y))] rfl (fun _ => rfl) ?_
  refine T_ld 4 (.int (i32 (-1))) rfl (fun _ => rfl) ?_
  refine T_sto 6 [(6, .int (i32 (-1))), (5, .int (i32 0)), (0, .ref 59), (1, .int (i32 s)), (2, .int (i32 n)), (3, .int (i32 x)), (4, .int (i32 y))] rfl (fun _ => rfl) ?_
  refine T_ld 7 (.int (i32 0)) rfl (fun _ => rfl) ?_
  refine T_sto 9 [(7, .int (i32 0)), (6, .int (i32 (-1))), (5, .int (i32 0)), (0, .ref 59), (1, .int (i32 s)), (2, .int (i32 n)), (3, .int (i32 x)), (4, .int (i32 y))] rfl (fun _ => rfl) ?_
  have L9_4 : ∀ (n15 : Nat) (v1 : Int) (v2 : Int) (v3 : Int), (R32 v1) → (R32 v2) → (R32 v3) → ((-1) ≤ v2) → (v2 ≤ 11) → (0 ≤ v3) → (v3 ≤ s) → (0 ≤ v1 ∧ v1 ≤ 12) → ((-1) ≤ v2 ∧ v2 ≤ 11) → s - v3 < (n15 : Int) → TT w D pm_159 (9, [(0, .ref 59), (1, .int (i32 s)), (2, .int (i32 n)), (3, .int (i32 x)), (4, .int (i32 y)), (5, .int (i32 v1)), (6, .int (i32 v2)), (7, .int (i32 v3))], [], (khp (mO m [] []) c, N), 0, 0) (Q_sp_earliest m c N s n x y) := by
    intro n15
    induction n15 with
    | zero =>
      intro v1 v2 v3 q11 q12 q13 ic5 ic6 ic7 ic8 ic9 ic10 hmu
      obtain ⟨q11a, q11b⟩ := id q11
      obtain ⟨q12a, q12b⟩ := id q12
      obtain ⟨q13a, q13b⟩ := id q13
      exfalso
      omega
    | succ n15 ih =>
      intro v1 v2 v3 q11 q12 q13 ic5 ic6 ic7 ic8 ic9 ic10 hmu
      obtain ⟨q11a, q11b⟩ := id q11
      obtain ⟨q12a, q12b⟩ := id q12
      obtain ⟨q13a, q13b⟩ := id q13
      have ih16 := ih
      refine T_ld 11 (.int (i32 v3)) rfl (fun _ => rfl) ?_
      refine T_ld 12 (.int (i32 s)) rfl (fun _ => rfl) ?_
      refine T_icmp 178 15 rfl rfl rfl (r32 (by omega) (by omega)) (r32 (by omega) (by omega)) (fun (h17 : s ≤ v3) => ?_) (fun (h17 : ¬ (s ≤ v3)) => ?_)
      · skip
        refine T_ld 180 (.int (i32 v1)) rfl (fun _ => rfl) ?_
        refine T_sto 182 [(7, .int (i32 v1)), (0, .ref 59), (1, .int (i32 s)), (2, .int (i32 n)), (3, .int (i32 x)), (4, .int (i32 y)), (5, .int (i32 v1)), (6, .int (i32 v2))] rfl (fun _ => rfl) ?_
        have L182_19 : ∀ (n23 : Nat) (v18 : Int), (R32 v18) → (0 ≤ v18 ∧ v18 ≤ 12) → 20 - v18 < (n23 : Int) → TT w D pm_159 (182, [(0, .ref 59), (2, .int (i32 n)), (3, .int (i32 x)), (4, .int (i32 y)), (6, .int (i32 v2)), (7, .int (i32 v18))], [], (khp (mO m [] []) c, N), 0, 0) (Q_sp_earliest m c N s n x y) := by
          intro n23
          induction n23 with
          | zero =>
            intro v18 q21 ic20 hmu
            obtain ⟨q21a, q21b⟩ := id q21
            exfalso
            omega
          | succ n23 ih =>
            intro v18 q21 ic20 hmu
            obtain ⟨q21a, q21b⟩ := id q21
            have ih24 := ih
            refine T_ld 184 (.int (i32 v18)) rfl (fun _ => rfl) ?_
            refine T_ld 185 (.int (i32 n)) rfl (fun _ => rfl) ?_
            refine T_icmp 269 188 rfl rfl rfl (r32 (by omega) (by omega)) (r32 (by omega) (by omega)) (fun (h25 : n ≤ v18) => ?_) (fun (h25 : ¬ (n ≤ v18)) => ?_)
            · skip
              refine T_ld 270 (.int (i32 (-1))) rfl (fun _ => rfl) ?_
              refine T_ret rfl (fun _ => rfl) ?_
              exact ⟨(-1), ⟨by omega, by omega⟩, (show 0 ≤ (-1 : Int) → (m.2 63) (-1 : Int) < 8 by omega), rfl⟩
            · skip
              refine T_ld 190 (.int (i32 v2)) rfl (fun _ => rfl) ?_
              refine T_ld 191 (.int (i32 (-1))) rfl (fun _ => rfl) ?_
              have J206_27 : ∀ (s26 : Int), (R32 s26) → (0 ≤ s26) → (s26 ≤ 1) → TT w D pm_159 (206, [(0, .ref 59), (2, .int (i32 n)), (3, .int (i32 x)), (4, .int (i32 y)), (6, .int (i32 v2)), (7, .int (i32 v18))], [.int (i32 s26)], (khp (mO m [] []) c, N), 0, 0) (Q_sp_earliest m c N s n x y) := by
                intro s26 q30 ic28 ic29
                obtain ⟨q30a, q30b⟩ := id q30
                refine T_sto 208 [(8, .int (i32 s26)), (0, .ref 59), (2, .int (i32 n)), (3, .int (i32 x)), (4, .int (i32 y)), (6, .int (i32 v2)), (7, .int (i32 v18))] rfl (fun _ => rfl) ?_
                refine T_ld 209 (.ref 59) rfl (fun _ => rfl) ?_
                refine K_gf 212 (.ref 72) rfl rfl kd_59 rfl rfl rfl ?_
                refine T_ld 214 (.int (i32 v18)) rfl (fun _ => rfl) ?_
                refine K_iald 215 64 (m.2 64) rfl rfl rfl (by omega) (show v18 < (12 : Int) by omega) rfl ?_
                have e33 : 0 ≤ m.2 64 v18 ∧ m.2 64 v18 ≤ 60000000 := hT.2.1 64 v18
                refine T_ld 216 (.int (i32 x)) rfl (fun _ => rfl) ?_
                have J236_35 : ∀ (s34 : Int), (R32 s34) → (0 ≤ s34) → (s34 ≤ 1) → TT w D pm_159 (236, [(0, .ref 59), (2, .int (i32 n)), (3, .int (i32 x)), (4, .int (i32 y)), (6, .int (i32 v2)), (7, .int (i32 v18)), (8, .int (i32 s26))], [.int (i32 s34)], (khp (mO m [] []) c, N), 0, 0) (Q_sp_earliest m c N s n x y) := by
                  intro s34 q38 ic36 ic37
                  obtain ⟨q38a, q38b⟩ := id q38
                  refine T_sto 238 [(9, .int (i32 s34)), (0, .ref 59), (2, .int (i32 n)), (3, .int (i32 x)), (4, .int (i32 y)), (6, .int (i32 v2)), (7, .int (i32 v18)), (8, .int (i32 s26))] rfl (fun _ => rfl) ?_
                  refine T_ld 240 (.int (i32 s26)) rfl (fun _ => rfl) ?_
                  refine T_if 263 243 rfl rfl rfl (r32 (by omega) (by omega)) (fun (h41 : s26 = 0) => ?_) (fun (h41 : ¬ (s26 = 0)) => ?_)
                  · skip
                    refine T_iinc 266 [(7, .int (i32 (v18 + 1))), (9, .int (i32 s34)), (0, .ref 59), (2, .int (i32 n)), (3, .int (i32 x)), (4, .int (i32 y)), (6, .int (i32 v2)), (8, .int (i32 s26))] rfl rfl (by decide) rfl rfl ?_
                    refine T_goto 182 rfl (fun _ => rfl) ?_
                    refine Tm_lv (a := [(0, .ref 59), (2, .int (i32 n)), (3, .int (i32 x)), (4, .int (i32 y)), (6, .int (i32 v2)), (7, .int (i32 (v18 + 1)))]) rfl rfl ⟨rfl, rfl, rfl, rfl, rfl, rfl, trivial⟩ ?_
                    exact ih24 (v18 + 1) (r32 (by omega) (by omega)) (show 0 ≤ (v18 + 1) ∧ (v18 + 1) ≤ 12 by omega) (show 20 - (v18 + 1) < (n23 : Int) by omega)
                  · skip
                    refine T_ld 245 (.int (i32 s34)) rfl (fun _ => rfl) ?_
                    refine T_if 263 248 rfl rfl rfl (r32 (by omega) (by omega)) (fun (h42 : s34 = 0) => ?_) (fun (h42 : ¬ (s34 = 0)) => ?_)
                    · skip
                      refine T_iinc 266 [(7, .int (i32 (v18 + 1))), (9, .int (i32 s34)), (0, .ref 59), (2, .int (i32 n)), (3, .int (i32 x)), (4, .int (i32 y)), (6, .int (i32 v2)), (8, .int (i32 s26))] rfl rfl (by decide) rfl rfl ?_
                      refine T_goto 182 rfl (fun _ => rfl) ?_
                      refine Tm_lv (a := [(0, .ref 59), (2, .int (i32 n)), (3, .int (i32 x)), (4, .int (i32 y)), (6, .int (i32 v2)), (7, .int (i32 (v18 + 1)))]) rfl rfl ⟨rfl, rfl, rfl, rfl, rfl, rfl, trivial⟩ ?_
                      exact ih24 (v18 + 1) (r32 (by omega) (by omega)) (show 0 ≤ (v18 + 1) ∧ (v18 + 1) ≤ 12 by omega) (show 20 - (v18 + 1) < (n23 : Int) by omega)
                    · skip
                      refine T_ld 249 (.ref 59) rfl (fun _ => rfl) ?_
                      refine K_gf 252 (.ref 71) rfl rfl kd_59 rfl rfl rfl ?_
                      refine T_ld 254 (.int (i32 v18)) rfl (fun _ => rfl) ?_
                      refine K_iald 255 63 (m.2 63) rfl rfl rfl (by omega) (show v18 < (12 : Int) by omega) rfl ?_
                      have e43 : 0 ≤ m.2 63 v18 ∧ m.2 63 v18 ≤ 48 := hT.2.1 63 v18
                      refine T_ld 257 (.int (i32 8)) rfl (fun _ => rfl) ?_
                      refine T_icmp 263 260 rfl rfl rfl (r32 (by omega) (by omega)) ⟨by decide, by decide⟩ (fun (h44 : (8 : Int) ≤ (m.2 63) v18) => ?_) (fun (h44 : ¬ ((8 : Int) ≤ (m.2 63) v18)) => ?_)
                      · skip
                        refine T_iinc 266 [(7, .int (i32 (v18 + 1))), (9, .int (i32 s34)), (0, .ref 59), (2, .int (i32 n)), (3, .int (i32 x)), (4, .int (i32 y)), (6, .int (i32 v2)), (8, .int (i32 s26))] rfl rfl (by decide) rfl rfl ?_
                        refine T_goto 182 rfl (fun _ => rfl) ?_
                        refine Tm_lv (a := [(0, .ref 59), (2, .int (i32 n)), (3, .int (i32 x)), (4, .int (i32 y)), (6, .int (i32 v2)), (7, .int (i32 (v18 + 1)))]) rfl rfl ⟨rfl, rfl, rfl, rfl, rfl, rfl, trivial⟩ ?_
                        exact ih24 (v18 + 1) (r32 (by omega) (by omega)) (show 0 ≤ (v18 + 1) ∧ (v18 + 1) ≤ 12 by omega) (show 20 - (v18 + 1) < (n23 : Int) by omega)
                      · skip
                        refine T_ld 262 (.int (i32 v18)) rfl (fun _ => rfl) ?_
                        refine T_ret rfl (fun _ => rfl) ?_
                        exact ⟨v18, ⟨by omega, by omega⟩, (show 0 ≤ v18 → (m.2 63) v18 < 8 by omega), rfl⟩
                refine T_icmp 235 219 rfl rfl rfl (r32 (by omega) (by omega)) (r32 (by omega) (by omega)) (fun (h45 : x < (m.2 64) v18) => ?_) (fun (h45 : ¬ (x < (m.2 64) v18)) => ?_)
                · skip
                  refine T_ld 236 (.int (i32 0)) rfl (fun _ => rfl) ?_
                  refine Tm_lv (a := [(0, .ref 59), (2, .int (i32 n)), (3, .int (i32 x)), (4, .int (i32 y)), (6, .int (i32 v2)), (7, .int (i32 v18)), (8, .int (i32 s26))]) rfl rfl ⟨rfl, rfl, rfl, rfl, rfl, rfl, rfl, trivial⟩ ?_
                  exact J236_35 0 ⟨by decide, by decide⟩ (show 0 ≤ (0 : Int) by omega) (show (0 : Int) ≤ 1 by omega)
                · skip
                  refine T_ld 220 (.ref 59) rfl (fun _ => rfl) ?_
                  refine K_gf 223 (.ref 73) rfl rfl kd_59 rfl rfl rfl ?_
                  refine T_ld 225 (.int (i32 v18)) rfl (fun _ => rfl) ?_
                  refine K_iald 226 65 (m.2 65) rfl rfl rfl (by omega) (show v18 < (12 : Int) by omega) rfl ?_
                  have e46 : 0 ≤ m.2 65 v18 ∧ m.2 65 v18 ≤ 200000 := hT.2.1 65 v18
                  refine T_ld 228 (.int (i32 y)) rfl (fun _ => rfl) ?_
                  refine T_icmp 235 231 rfl rfl rfl (r32 (by omega) (by omega)) (r32 (by omega) (by omega)) (fun (h47 : y < (m.2 65) v18) => ?_) (fun (h47 : ¬ (y < (m.2 65) v18)) => ?_)
                  · skip
                    refine T_ld 236 (.int (i32 0)) rfl (fun _ => rfl) ?_
                    refine Tm_lv (a := [(0, .ref 59), (2, .int (i32 n)), (3, .int (i32 x)), (4, .int (i32 y)), (6, .int (i32 v2)), (7, .int (i32 v18)), (8, .int (i32 s26))]) rfl rfl ⟨rfl, rfl, rfl, rfl, rfl, rfl, rfl, trivial⟩ ?_
                    exact J236_35 0 ⟨by decide, by decide⟩ (show 0 ≤ (0 : Int) by omega) (show (0 : Int) ≤ 1 by omega)
                  · skip
                    refine T_ld 232 (.int (i32 1)) rfl (fun _ => rfl) ?_
                    refine T_goto 236 rfl (fun _ => rfl) ?_
                    refine Tm_lv (a := [(0, .ref 59), (2, .int (i32 n)), (3, .int (i32 x)), (4, .int (i32 y)), (6, .int (i32 v2)), (7, .int (i32 v18)), (8, .int (i32 s26))]) rfl rfl ⟨rfl, rfl, rfl, rfl, rfl, rfl, rfl, trivial⟩ ?_
                    exact J236_35 1 ⟨by decide, by decide⟩ (show 0 ≤ (1 : Int) by omega) (show (1 : Int) ≤ 1 by omega)
              refine T_icmp 201 194 rfl rfl rfl (r32 (by omega) (by omega)) ⟨by decide, by decide⟩ (fun (h48 : v2 = (-1)) => ?_) (fun (h48 : ¬ (v2 = (-1))) => ?_)
              · skip
                refine T_ld 202 (.int (i32 1)) rfl (fun _ => rfl) ?_
                refine T_goto 206 rfl (fun _ => rfl) ?_
                exact J206_27 1 ⟨by decide, by decide⟩ (show 0 ≤ (1 : Int) by omega) (show (1 : Int) ≤ 1 by omega)
              · skip
                refine T_ld 196 (.int (i32 v2)) rfl (fun _ => rfl) ?_
                refine T_ld 198 (.int (i32 v18)) rfl (fun _ => rfl) ?_
                refine T_icmp 205 201 rfl rfl rfl (r32 (by omega) (by omega)) (r32 (by omega) (by omega)) (fun (h49 : v2 ≠ v18) => ?_) (fun (h49 : ¬ (v2 ≠ v18)) => ?_)
                · skip
                  refine T_ld 206 (.int (i32 0)) rfl (fun _ => rfl) ?_
                  exact J206_27 0 ⟨by decide, by decide⟩ (show 0 ≤ (0 : Int) by omega) (show (0 : Int) ≤ 1 by omega)
                · skip
                  refine T_ld 202 (.int (i32 1)) rfl (fun _ => rfl) ?_
                  refine T_goto 206 rfl (fun _ => rfl) ?_
                  exact J206_27 1 ⟨by decide, by decide⟩ (show 0 ≤ (1 : Int) by omega) (show (1 : Int) ≤ 1 by omega)
        refine Tm_lv (a := [(0, .ref 59), (2, .int (i32 n)), (3, .int (i32 x)), (4, .int (i32 y)), (6, .int (i32 v2)), (7, .int (i32 v1))]) rfl rfl ⟨rfl, rfl, rfl, rfl, rfl, rfl, trivial⟩ ?_
        exact L182_19 ((20 - v1 : Int) + 1).toNat v1 (r32 (by omega) (by omega)) (show 0 ≤ v1 ∧ v1 ≤ 12 by omega) (show 20 - v1 < ((((20 - v1 : Int) + 1).toNat : Nat) : Int) by omega)
      · skip
        refine T_ld 16 (.ref 59) rfl (fun _ => rfl) ?_
        refine T_ld 17 (.ref 59) rfl (fun _ => rfl) ?_
        refine K_gf 20 (.ref 69) rfl rfl kd_59 rfl rfl rfl ?_
        refine T_ld 22 (.int (i32 v3)) rfl (fun _ => rfl) ?_
        refine T_ld 23 (.ref 59) rfl (fun _ => rfl) ?_
        refine K_gf 26 (.ref 68) rfl rfl kd_59 rfl rfl rfl ?_
        refine T_ld 27 (.int (i32 s)) rfl (fun _ => rfl) ?_
        refine T_callx 30 160 [.ref 59, .ref 69, .int (i32 v3), .ref 68, .int (i32 s)] [] rfl (fun _ => rfl) rfl rfl (c_meet_wr w (mO m [] []) c N D (by omega) hT v3 s (r32 (by omega) (by omega)) (r32 (by omega) (by omega)) (show 0 ≤ v3 ∧ v3 ≤ 47 by omega) (show 0 ≤ s ∧ s ≤ 47 by omega)) (fun rr50 k51 => ?_)
        obtain ⟨x52, g53, rfl⟩ := k51
        refine Or.inl ⟨_, _, _, _, rfl, ?_⟩
        refine T_ns (st' := [.int (i32 x52)]) rfl ?_
        obtain ⟨g53a, g53b⟩ := g53
        have J67_55 : ∀ (s54 : Int), (R32 s54) → (0 ≤ s54) → (s54 ≤ 1) → TT w D pm_159 (67, [(0, .ref 59), (1, .int (i32 s)), (2, .int (i32 n)), (3, .int (i32 x)), (4, .int (i32 y)), (5, .int (i32 v1)), (6, .int (i32 v2)), (7, .int (i32 v3))], [.int (i32 s54)], (khp (mO m [] []) c, N), 0, 0) (Q_sp_earliest m c N s n x y) := by
          intro s54 q58 ic56 ic57
          obtain ⟨q58a, q58b⟩ := id q58
          refine T_sto 69 [(8, .int (i32 s54)), (0, .ref 59), (1, .int (i32 s)), (2, .int (i32 n)), (3, .int (i32 x)), (4, .int (i32 y)), (5, .int (i32 v1)), (6, .int (i32 v2)), (7, .int (i32 v3))] rfl (fun _ => rfl) ?_
          refine T_ld 71 (.int (i32 s54)) rfl (fun _ => rfl) ?_
          have J115_62 : ∀ (s61 : Int), (R32 s61) → (0 ≤ s61) → (s61 ≤ 12) → TT w D pm_159 (115, [(0, .ref 59), (1, .int (i32 s)), (2, .int (i32 n)), (3, .int (i32 x)), (4, .int (i32 y)), (5, .int (i32 v1)), (6, .int (i32 v2)), (7, .int (i32 v3))], [.int (i32 s61)], (khp (mO m [] []) c, N), 0, 0) (Q_sp_earliest m c N s n x y) := by
            intro s61 q65 ic63 ic64
            obtain ⟨q65a, q65b⟩ := id q65
            refine T_sto 117 [(9, .int (i32 s61)), (0, .ref 59), (1, .int (i32 s)), (2, .int (i32 n)), (3, .int (i32 x)), (4, .int (i32 y)), (5, .int (i32 v1)), (6, .int (i32 v2)), (7, .int (i32 v3))] rfl (fun _ => rfl) ?_
            refine T_ld 119 (.int (i32 v1)) rfl (fun _ => rfl) ?_
            refine T_ld 121 (.int (i32 s61)) rfl (fun _ => rfl) ?_
            refine T_callx 124 61 [.int (i32 v1), .int (i32 s61)] [] rfl (fun _ => rfl) rfl rfl (c_Math_max w (mO m [] []) c N D (by omega) hT v1 s61 (r32 (by omega) (by omega)) (r32 (by omega) (by omega))) (fun rr68 k69 => ?_)
            obtain ⟨x70, g71, h72, h73, rfl⟩ := k69
            refine Or.inl ⟨_, _, _, _, rfl, ?_⟩
            refine T_ns (st' := [.int (i32 x70)]) rfl ?_
            obtain ⟨g71a, g71b⟩ := g71
            replace h72 : x70 = v1 ∨ x70 = s61 := h72
            replace h73 : v1 ≤ x70 ∧ s61 ≤ x70 := h73
            clear g53a g53b q58a q58b q58 ic56 ic57
            refine T_sto 126 [(5, .int (i32 x70)), (9, .int (i32 s61)), (0, .ref 59), (1, .int (i32 s)), (2, .int (i32 n)), (3, .int (i32 x)), (4, .int (i32 y)), (6, .int (i32 v2)), (7, .int (i32 v3))] rfl (fun _ => rfl) ?_
            refine T_ld 127 (.ref 59) rfl (fun _ => rfl) ?_
            refine K_gf 130 (.ref 70) rfl rfl kd_59 rfl rfl rfl ?_
            refine T_ld 132 (.int (i32 v3)) rfl (fun _ => rfl) ?_
            refine K_iald 133 62 (m.2 62) rfl rfl rfl (by omega) (show v3 < (48 : Int) by omega) rfl ?_
            have e74 : (-2147483648) ≤ m.2 62 v3 ∧ m.2 62 v3 ≤ 2147483647 := hT.2.1 62 v3
            refine T_ld 134 (.ref 59) rfl (fun _ => rfl) ?_
            refine K_gf 137 (.ref 70) rfl rfl kd_59 rfl rfl rfl ?_
            refine T_ld 138 (.int (i32 s)) rfl (fun _ => rfl) ?_
            refine K_iald 139 62 (m.2 62) rfl rfl rfl (by omega) (show s < (48 : Int) by omega) rfl ?_
            have e75 : (-2147483648) ≤ m.2 62 s ∧ m.2 62 s ≤ 2147483647 := hT.2.1 62 s
            refine T_hv 140 _ rfl (fun _ => rfl) (fun z76 h77 => ?_)
            obtain ⟨h77a, h77b⟩ := h77
            refine T_if 172 143 rfl rfl rfl (r32 (by omega) (by omega)) (fun (h78 : z76 = 0) => ?_) (fun (h78 : ¬ (z76 = 0)) => ?_)
            · skip
              refine T_iinc 175 [(7, .int (i32 (v3 + 1))), (5, .int (i32 x70)), (9, .int (i32 s61)), (0, .ref 59), (1, .int (i32 s)), (2, .int (i32 n)), (3, .int (i32 x)), (4, .int (i32 y)), (6, .int (i32 v2))] rfl rfl (by decide) rfl rfl ?_
              refine T_goto 9 rfl (fun _ => rfl) ?_
              refine Tm_lv (a := [(0, .ref 59), (1, .int (i32 s)), (2, .int (i32 n)), (3, .int (i32 x)), (4, .int (i32 y)), (5, .int (i32 x70)), (6, .int (i32 v2)), (7, .int (i32 (v3 + 1)))]) rfl rfl ⟨rfl, rfl, rfl, rfl, rfl, rfl, rfl, rfl, trivial⟩ ?_
              exact ih16 x70 v2 (v3 + 1) (r32 (by omega) (by omega)) (r32 (by omega) (by omega)) (r32 (by omega) (by omega)) (show (-1) ≤ v2 by omega) (show v2 ≤ 11 by omega) (show 0 ≤ (v3 + 1) by omega) (show (v3 + 1) ≤ s by omega) (show 0 ≤ x70 ∧ x70 ≤ 12 by omega) (show (-1) ≤ v2 ∧ v2 ≤ 11 by omega) (show s - (v3 + 1) < (n15 : Int) by omega)
            · skip
              refine T_ld 145 (.int (i32 v2)) rfl (fun _ => rfl) ?_
              refine T_ld 146 (.int (i32 (-1))) rfl (fun _ => rfl) ?_
              refine T_icmp 163 149 rfl rfl rfl (r32 (by omega) (by omega)) ⟨by decide, by decide⟩ (fun (h79 : v2 = (-1)) => ?_) (fun (h79 : ¬ (v2 = (-1))) => ?_)
              · skip
                refine T_ld 164 (.ref 59) rfl (fun _ => rfl) ?_
                refine K_gf 167 (.ref 67) rfl rfl kd_59 rfl rfl rfl ?_
                refine T_ld 169 (.int (i32 v3)) rfl (fun _ => rfl) ?_
                refine K_iald 170 59 (m.2 59) rfl rfl rfl (by omega) (show v3 < (48 : Int) by omega) rfl ?_
                have e80 : 0 ≤ m.2 59 v3 ∧ m.2 59 v3 ≤ 11 := hT.2.1 59 v3
                refine T_sto 172 [(6, .int (i32 ((m.2 59) v3))), (5, .int (i32 x70)), (9, .int (i32 s61)), (0, .ref 59), (1, .int (i32 s)), (2, .int (i32 n)), (3, .int (i32 x)), (4, .int (i32 y)), (7, .int (i32 v3))] rfl (fun _ => rfl) ?_
                refine T_iinc 175 [(7, .int (i32 (v3 + 1))), (6, .int (i32 ((m.2 59) v3))), (5, .int (i32 x70)), (9, .int (i32 s61)), (0, .ref 59), (1, .int (i32 s)), (2, .int (i32 n)), (3, .int (i32 x)), (4, .int (i32 y))] rfl rfl (by decide) rfl rfl ?_
                refine T_goto 9 rfl (fun _ => rfl) ?_
                refine Tm_lv (a := [(0, .ref 59), (1, .int (i32 s)), (2, .int (i32 n)), (3, .int (i32 x)), (4, .int (i32 y)), (5, .int (i32 x70)), (6, .int (i32 ((m.2 59) v3))), (7, .int (i32 (v3 + 1)))]) rfl rfl ⟨rfl, rfl, rfl, rfl, rfl, rfl, rfl, rfl, trivial⟩ ?_
                exact ih16 x70 ((m.2 59) v3) (v3 + 1) (r32 (by omega) (by omega)) (r32 (by omega) (by omega)) (r32 (by omega) (by omega)) (show (-1) ≤ ((m.2 59) v3) by omega) (show ((m.2 59) v3) ≤ 11 by omega) (show 0 ≤ (v3 + 1) by omega) (show (v3 + 1) ≤ s by omega) (show 0 ≤ x70 ∧ x70 ≤ 12 by omega) (show (-1) ≤ ((m.2 59) v3) ∧ ((m.2 59) v3) ≤ 11 by omega) (show s - (v3 + 1) < (n15 : Int) by omega)
              · skip
                refine T_ld 151 (.int (i32 v2)) rfl (fun _ => rfl) ?_
                refine T_ld 152 (.ref 59) rfl (fun _ => rfl) ?_
                refine K_gf 155 (.ref 67) rfl rfl kd_59 rfl rfl rfl ?_
                refine T_ld 157 (.int (i32 v3)) rfl (fun _ => rfl) ?_
                refine K_iald 158 59 (m.2 59) rfl rfl rfl (by omega) (show v3 < (48 : Int) by omega) rfl ?_
                have e81 : 0 ≤ m.2 59 v3 ∧ m.2 59 v3 ≤ 11 := hT.2.1 59 v3
                refine T_icmp 163 161 rfl rfl rfl (r32 (by omega) (by omega)) (r32 (by omega) (by omega)) (fun (h82 : v2 = (m.2 59) v3) => ?_) (fun (h82 : ¬ (v2 = (m.2 59) v3)) => ?_)
                · skip
                  refine T_ld 164 (.ref 59) rfl (fun _ => rfl) ?_
                  refine K_gf 167 (.ref 67) rfl rfl kd_59 rfl rfl rfl ?_
                  refine T_ld 169 (.int (i32 v3)) rfl (fun _ => rfl) ?_
                  refine K_iald 170 59 (m.2 59) rfl rfl rfl (by omega) (show v3 < (48 : Int) by omega) rfl ?_
                  have e83 : 0 ≤ m.2 59 v3 ∧ m.2 59 v3 ≤ 11 := hT.2.1 59 v3
                  refine T_sto 172 [(6, .int (i32 ((m.2 59) v3))), (5, .int (i32 x70)), (9, .int (i32 s61)), (0, .ref 59), (1, .int (i32 s)), (2, .int (i32 n)), (3, .int (i32 x)), (4, .int (i32 y)), (7, .int (i32 v3))] rfl (fun _ => rfl) ?_
                  refine T_iinc 175 [(7, .int (i32 (v3 + 1))), (6, .int (i32 ((m.2 59) v3))), (5, .int (i32 x70)), (9, .int (i32 s61)), (0, .ref 59), (1, .int (i32 s)), (2, .int (i32 n)), (3, .int (i32 x)), (4, .int (i32 y))] rfl rfl (by decide) rfl rfl ?_
                  refine T_goto 9 rfl (fun _ => rfl) ?_
                  refine Tm_lv (a := [(0, .ref 59), (1, .int (i32 s)), (2, .int (i32 n)), (3, .int (i32 x)), (4, .int (i32 y)), (5, .int (i32 x70)), (6, .int (i32 ((m.2 59) v3))), (7, .int (i32 (v3 + 1)))]) rfl rfl ⟨rfl, rfl, rfl, rfl, rfl, rfl, rfl, rfl, trivial⟩ ?_
                  exact ih16 x70 ((m.2 59) v3) (v3 + 1) (r32 (by omega) (by omega)) (r32 (by omega) (by omega)) (r32 (by omega) (by omega)) (show (-1) ≤ ((m.2 59) v3) by omega) (show ((m.2 59) v3) ≤ 11 by omega) (show 0 ≤ (v3 + 1) by omega) (show (v3 + 1) ≤ s by omega) (show 0 ≤ x70 ∧ x70 ≤ 12 by omega) (show (-1) ≤ ((m.2 59) v3) ∧ ((m.2 59) v3) ≤ 11 by omega) (show s - (v3 + 1) < (n15 : Int) by omega)
                · skip
                  refine T_ld 162 (.int (i32 (-1))) rfl (fun _ => rfl) ?_
                  refine T_ret rfl (fun _ => rfl) ?_
                  exact ⟨(-1), ⟨by omega, by omega⟩, (show 0 ≤ (-1 : Int) → (m.2 63) (-1 : Int) < 8 by omega), rfl⟩
          refine T_if 86 74 rfl rfl rfl (r32 (by omega) (by omega)) (fun (h84 : s54 = 0) => ?_) (fun (h84 : ¬ (s54 = 0)) => ?_)
          · skip
            refine T_ld 87 (.ref 59) rfl (fun _ => rfl) ?_
            refine T_ld 88 (.ref 59) rfl (fun _ => rfl) ?_
            refine K_gf 91 (.ref 68) rfl rfl kd_59 rfl rfl rfl ?_
            refine T_ld 93 (.int (i32 v3)) rfl (fun _ => rfl) ?_
            refine T_ld 94 (.ref 59) rfl (fun _ => rfl) ?_
            refine K_gf 97 (.ref 69) rfl rfl kd_59 rfl rfl rfl ?_
            refine T_ld 98 (.int (i32 s)) rfl (fun _ => rfl) ?_
            refine T_callx 101 160 [.ref 59, .ref 68, .int (i32 v3), .ref 69, .int (i32 s)] [] rfl (fun _ => rfl) rfl rfl (c_meet_rw w (mO m [] []) c N D (by omega) hT v3 s (r32 (by omega) (by omega)) (r32 (by omega) (by omega)) (show 0 ≤ v3 ∧ v3 ≤ 47 by omega) (show 0 ≤ s ∧ s ≤ 47 by omega)) (fun rr85 k86 => ?_)
            obtain ⟨x87, g88, rfl⟩ := k86
            refine Or.inl ⟨_, _, _, _, rfl, ?_⟩
            refine T_ns (st' := [.int (i32 x87)]) rfl ?_
            obtain ⟨g88a, g88b⟩ := g88
            clear g53a g53b
            refine T_if 114 104 rfl rfl rfl (r32 (by omega) (by omega)) (fun (h89 : x87 = 0) => ?_) (fun (h89 : ¬ (x87 = 0)) => ?_)
            · skip
              refine T_ld 115 (.int (i32 0)) rfl (fun _ => rfl) ?_
              refine Tm_lv (a := [(0, .ref 59), (1, .int (i32 s)), (2, .int (i32 n)), (3, .int (i32 x)), (4, .int (i32 y)), (5, .int (i32 v1)), (6, .int (i32 v2)), (7, .int (i32 v3))]) rfl rfl ⟨rfl, rfl, rfl, rfl, rfl, rfl, rfl, rfl, trivial⟩ ?_
              exact J115_62 0 ⟨by decide, by decide⟩ (show 0 ≤ (0 : Int) by omega) (show (0 : Int) ≤ 12 by omega)
            · skip
              refine T_ld 105 (.ref 59) rfl (fun _ => rfl) ?_
              refine K_gf 108 (.ref 67) rfl rfl kd_59 rfl rfl rfl ?_
              refine T_ld 110 (.int (i32 v3)) rfl (fun _ => rfl) ?_
              refine K_iald 111 59 (m.2 59) rfl rfl rfl (by omega) (show v3 < (48 : Int) by omega) rfl ?_
              have e90 : 0 ≤ m.2 59 v3 ∧ m.2 59 v3 ≤ 11 := hT.2.1 59 v3
              refine T_goto 115 rfl (fun _ => rfl) ?_
              refine Tm_lv (a := [(0, .ref 59), (1, .int (i32 s)), (2, .int (i32 n)), (3, .int (i32 x)), (4, .int (i32 y)), (5, .int (i32 v1)), (6, .int (i32 v2)), (7, .int (i32 v3))]) rfl rfl ⟨rfl, rfl, rfl, rfl, rfl, rfl, rfl, rfl, trivial⟩ ?_
              exact J115_62 ((m.2 59) v3) (r32 (by omega) (by omega)) (show 0 ≤ ((m.2 59) v3) by omega) (show ((m.2 59) v3) ≤ 12 by omega)
          · skip
            refine T_ld 75 (.ref 59) rfl (fun _ => rfl) ?_
            refine K_gf 78 (.ref 67) rfl rfl kd_59 rfl rfl rfl ?_
            refine T_ld 80 (.int (i32 v3)) rfl (fun _ => rfl) ?_
            refine K_iald 81 59 (m.2 59) rfl rfl rfl (by omega) (show v3 < (48 : Int) by omega) rfl ?_
            have e91 : 0 ≤ m.2 59 v3 ∧ m.2 59 v3 ≤ 11 := hT.2.1 59 v3
            refine T_ld 82 (.int (i32 1)) rfl (fun _ => rfl) ?_
            refine T_iadd 83 rfl rfl ?_
            refine T_goto 115 rfl (fun _ => rfl) ?_
            refine Tm_lv (a := [(0, .ref 59), (1, .int (i32 s)), (2, .int (i32 n)), (3, .int (i32 x)), (4, .int (i32 y)), (5, .int (i32 v1)), (6, .int (i32 v2)), (7, .int (i32 v3))]) rfl rfl ⟨rfl, rfl, rfl, rfl, rfl, rfl, rfl, rfl, trivial⟩ ?_
            exact J115_62 (((m.2 59) v3) + 1) (r32 (by omega) (by omega)) (show 0 ≤ (((m.2 59) v3) + 1) by omega) (show (((m.2 59) v3) + 1) ≤ 12 by omega)
        refine T_if 62 33 rfl rfl rfl (r32 (by omega) (by omega)) (fun (h92 : x52 ≠ 0) => ?_) (fun (h92 : ¬ (x52 ≠ 0)) => ?_)
        · skip
          refine T_ld 63 (.int (i32 1)) rfl (fun _ => rfl) ?_
          refine T_goto 67 rfl (fun _ => rfl) ?_
          exact J67_55 1 ⟨by decide, by decide⟩ (show 0 ≤ (1 : Int) by omega) (show (1 : Int) ≤ 1 by omega)
        · skip
          refine T_ld 34 (.ref 59) rfl (fun _ => rfl) ?_
          refine T_ld 35 (.ref 59) rfl (fun _ => rfl) ?_
          refine K_gf 38 (.ref 69) rfl rfl kd_59 rfl rfl rfl ?_
          refine T_ld 40 (.int (i32 v3)) rfl (fun _ => rfl) ?_
          refine T_ld 41 (.ref 59) rfl (fun _ => rfl) ?_
          refine K_gf 44 (.ref 69) rfl rfl kd_59 rfl rfl rfl ?_
          refine T_ld 45 (.int (i32 s)) rfl (fun _ => rfl) ?_
          refine T_callx 48 160 [.ref 59, .ref 69, .int (i32 v3), .ref 69, .int (i32 s)] [] rfl (fun _ => rfl) rfl rfl (c_meet_ww w (mO m [] []) c N D (by omega) hT v3 s (r32 (by omega) (by omega)) (r32 (by omega) (by omega)) (show 0 ≤ v3 ∧ v3 ≤ 47 by omega) (show 0 ≤ s ∧ s ≤ 47 by omega)) (fun rr93 k94 => ?_)
          obtain ⟨x95, g96, rfl⟩ := k94
          refine Or.inl ⟨_, _, _, _, rfl, ?_⟩
          refine T_ns (st' := [.int (i32 x95)]) rfl ?_
          obtain ⟨g96a, g96b⟩ := g96
          clear g53a g53b h92
          refine T_if 62 51 rfl rfl rfl (r32 (by omega) (by omega)) (fun (h97 : x95 ≠ 0) => ?_) (fun (h97 : ¬ (x95 ≠ 0)) => ?_)
          · skip
            refine T_ld 63 (.int (i32 1)) rfl (fun _ => rfl) ?_
            refine T_goto 67 rfl (fun _ => rfl) ?_
            exact J67_55 1 ⟨by decide, by decide⟩ (show 0 ≤ (1 : Int) by omega) (show (1 : Int) ≤ 1 by omega)
          · skip
            refine T_ld 52 (.ref 59) rfl (fun _ => rfl) ?_
            refine K_gf 55 (.ref 61) rfl rfl kd_59 rfl rfl rfl ?_
            refine T_ld 56 (.int (i32 s)) rfl (fun _ => rfl) ?_
            refine K_iald 57 53 (m.2 53) rfl rfl rfl (by omega) (show s < (48 : Int) by omega) rfl ?_
            have e98 : (-1) ≤ m.2 53 s ∧ m.2 53 s ≤ 47 := hT.2.1 53 s
            refine T_ld 59 (.int (i32 v3)) rfl (fun _ => rfl) ?_
            refine T_icmp 66 62 rfl rfl rfl (r32 (by omega) (by omega)) (r32 (by omega) (by omega)) (fun (h99 : (m.2 53) s ≠ v3) => ?_) (fun (h99 : ¬ ((m.2 53) s ≠ v3)) => ?_)
            · skip
              refine T_ld 67 (.int (i32 0)) rfl (fun _ => rfl) ?_
              exact J67_55 0 ⟨by decide, by decide⟩ (show 0 ≤ (0 : Int) by omega) (show (0 : Int) ≤ 1 by omega)
            · skip
              refine T_ld 63 (.int (i32 1)) rfl (fun _ => rfl) ?_
              refine T_goto 67 rfl (fun _ => rfl) ?_
              exact J67_55 1 ⟨by decide, by decide⟩ (show 0 ≤ (1 : Int) by omega) (show (1 : Int) ≤ 1 by omega)
  refine Tm_lv (a := [(0, .ref 59), (1, .int (i32 s)), (2, .int (i32 n)), (3, .int (i32 x)), (4, .int (i32 y)), (5, .int (i32 0)), (6, .int (i32 (-1))), (7, .int (i32 0))]) rfl rfl ⟨rfl, rfl, rfl, rfl, rfl, rfl, rfl, rfl, trivial⟩ ?_
  exact L9_4 ((s - (0 : Int) : Int) + 1).toNat 0 (-1) 0 ⟨by decide, by decide⟩ ⟨by decide, by decide⟩ ⟨by decide, by decide⟩ (show (-1) ≤ (-1 : Int) by omega) (show (-1 : Int) ≤ 11 by omega) (show 0 ≤ (0 : Int) by omega) (show (0 : Int) ≤ s by omega) (show 0 ≤ (0 : Int) ∧ (0 : Int) ≤ 12 by omega) (show (-1) ≤ (-1 : Int) ∧ (-1 : Int) ≤ 11 by omega) (show s - (0 : Int) < ((((s - (0 : Int) : Int) + 1).toNat : Nat) : Int) by omega)
def Q_pr_slotWidth (m : mR) (c : Nat → Option am_C) (N : Nat) (s : Int) : ag_Re af_T → Prop := fun R => (∃ (r : Int), (0 ≤ r ∧ r ≤ 64) ∧ R = (.inl (some (.int (i32 r))), (khp m c, N), 0, 0))
set_option maxHeartbeats 3000000 in
theorem c_pr_slotWidth (w : wX) (m : mR) (c : Nat → Option am_C) (N D : Nat) (hD : 2 ≤ D) (hT : KTy m) (s : Int) (qs : R32 s) (p0 : 0 ≤ s ∧ s ≤ 219) : TC w D 100 [.ref 12, .int (i32 s)] (khp m c, N) (Q_pr_slotWidth m c N s) := by
  obtain ⟨D, rfl⟩ : ∃ k, D = k + 1 := ⟨D - 1, by omega⟩
  obtain ⟨qsa, qsb⟩ := id qs
  refine Tc_of rfl ?_
  rw [show (khp m c, N) = (khp (mO m [] []) c, N) from by rw [mO_nil m]]
  show TT w D pm_100 (0, [(0, .ref 12), (1, .int (i32 s))], [], (khp (mO m [] []) c, N), 0, 0) (Q_pr_slotWidth m c N s)
  refine T_ld 1 (.int (i32 s)) rfl (fun _ => rfl) ?_
  refine T_ld 4 (.int (i32 204)) rfl (fun _ => rfl) ?_
  refine T_icmp 18 7 rfl rfl rfl (r32 (by omega) (by omega)) ⟨by decide, by decide⟩ (fun (h1 : s < 204) => ?_) (fun (h1 : ¬ (s < 204)) => ?_)
  · skip
    refine T_ld 19 (.int (i32 s)) rfl (fun _ => rfl) ?_
    refine T_ld 21 (.int (i32 17)) rfl (fun _ => rfl) ?_
    refine T_irem 22 rfl rfl (by omega) (by omega) (by omega) (by omega) ?_
    refine T_ld 23 (.int (i32 1)) rfl (fun _ => rfl) ?_
    refine T_isub 24 rfl rfl ?_
    refine T_sto 25 [(2, .int (i32 ((s % 17) - 1))), (0, .ref 12), (1, .int (i32 s))] rfl (fun _ => rfl) ?_
    refine T_ld 26 (.int (i32 ((s % 17) - 1))) rfl (fun _ => rfl) ?_
    refine T_if 33 29 rfl rfl rfl (r32 (by omega) (by omega)) (fun (h2 : (0 : Int) ≤ (s % 17) - 1) => ?_) (fun (h2 : ¬ ((0 : Int) ≤ (s % 17) - 1)) => ?_)
    · skip
      refine T_ld 34 (.ref 12) rfl (fun _ => rfl) ?_
      refine T_ld 35 (.int (i32 s)) rfl (fun _ => rfl) ?_
      refine T_ld 37 (.int (i32 17)) rfl (fun _ => rfl) ?_
      refine T_idiv 38 rfl rfl (by omega) (by omega) (by omega) (by omega) ?_
      refine T_ld 39 (.int (i32 ((s % 17) - 1))) rfl (fun _ => rfl) ?_
      refine T_callx 42 101 [.ref 12, .int (i32 (s / 17)), .int (i32 ((s % 17) - 1))] [] rfl (fun _ => rfl) rfl rfl (c_pr_widthOfField w (mO m [] []) c N D (by omega) hT (s / 17) ((s % 17) - 1) (r32 (by omega) (by omega)) (r32 (by omega) (by omega)) (show 0 ≤ (s / 17) ∧ (s / 17) ≤ 11 by omega) (show 0 ≤ ((s % 17) - 1) by omega)) (fun rr3 k4 => ?_)
      obtain ⟨wf, g5, h6, rfl⟩ := k4
      refine Or.inl ⟨_, _, _, _, rfl, ?_⟩
      refine T_ns (st' := [.int (i32 wf)]) rfl ?_
      obtain ⟨g5a, g5b⟩ := g5
      replace h6 : ((s % 17) - 1) ≤ 15 → wf = (m.2 10) ((m.2 13) (s / 17) * 16 + ((s % 17) - 1)) := h6
      have hWf := h6
      refine T_ret rfl (fun _ => rfl) ?_
      exact ⟨wf, ⟨by omega, by omega⟩, rfl⟩
    · skip
      refine T_ld 30 (.int (i32 1)) rfl (fun _ => rfl) ?_
      refine T_goto 42 rfl (fun _ => rfl) ?_
      refine T_ret rfl (fun _ => rfl) ?_
      exact ⟨1, ⟨by omega, by omega⟩, rfl⟩
  · skip
    refine T_ld 8 (.ref 12) rfl (fun _ => rfl) ?_
    refine K_gf 11 (.ref 17) rfl rfl kd_12 rfl rfl rfl ?_
    refine T_ld 12 (.int (i32 s)) rfl (fun _ => rfl) ?_
    refine T_ld 15 (.int (i32 204)) rfl (fun _ => rfl) ?_
    refine T_isub 16 rfl rfl ?_
    refine K_iald 17 14 (m.2 14) rfl rfl rfl (by omega) (show (s - 204) < (16 : Int) by omega) rfl ?_
    have e7 : 0 ≤ m.2 14 (s - 204) ∧ m.2 14 (s - 204) ≤ 64 := hT.2.1 14 (s - 204)
    refine T_ret rfl (fun _ => rfl) ?_
    exact ⟨(m.2 14) (s - 204), ⟨by omega, by omega⟩, rfl⟩
def Q_pi_inLine (m : mR) (c : Nat → Option am_C) (N : Nat) : ag_Re af_T → Prop := fun R => (∃ (r : Int), ((-2147483648) ≤ r ∧ r ≤ 2147483647) ∧ (r = (m.1 232) - (m.1 233)) ∧ R = (.inl (some (.int (i32 r))), (khp m c, N), 0, 0))
set_option maxHeartbeats 3000000 in
theorem c_pi_inLine (w : wX) (m : mR) (c : Nat → Option am_C) (N D : Nat) (hD : 1 ≤ D) (hT : KTy m) : TC w D 40 [.ref 185] (khp m c, N) (Q_pi_inLine m c N) := by
  obtain ⟨D, rfl⟩ : ∃ k, D = k + 1 := ⟨D - 1, by omega⟩
  have f232 : 0 ≤ m.1 232 ∧ m.1 232 ≤ 1000000 := hT.1 232
  have f233 : 0 ≤ m.1 233 ∧ m.1 233 ≤ 1000000 := hT.1 233
  refine Tc_of rfl ?_
  rw [show (khp m c, N) = (khp (mO m [] []) c, N) from by rw [mO_nil m]]
  show TT w D pm_40 (0, [(0, .ref 185)], [], (khp (mO m [] []) c, N), 0, 0) (Q_pi_inLine m c N)
  refine T_ld 1 (.ref 185) rfl (fun _ => rfl) ?_
  refine K_gf 4 (.int (i32 (m.1 232))) rfl rfl kd_185 rfl rfl rfl ?_
  refine T_ld 5 (.ref 185) rfl (fun _ => rfl) ?_
  refine K_gf 8 (.int (i32 (m.1 233))) rfl rfl kd_185 rfl rfl rfl ?_
  refine T_isub 9 rfl rfl ?_
  refine T_ret rfl (fun _ => rfl) ?_
  exact ⟨(m.1 232) - (m.1 233), ⟨by omega, by omega⟩, (show ((m.1 232) - (m.1 233)) = (m.1 232) - (m.1 233) by omega), rfl⟩
def Q_pi_inStages (m : mR) (c : Nat → Option am_C) (N : Nat) : ag_Re af_T → Prop := fun R => (∃ (r : Int), ((-2147483648) ≤ r ∧ r ≤ 2147483647) ∧ R = (.inl (some (.int (i32 r))), (khp m c, N), 0, 0))
set_option maxHeartbeats 3000000 in
theorem c_pi_inStages (w : wX) (m : mR) (c : Nat → Option am_C) (N D : Nat) (hD : 1 ≤ D) (hT : KTy m) : TC w D 41 [.ref 185] (khp m c, N) (Q_pi_inStages m c N) := by
  obtain ⟨D, rfl⟩ : ∃ k, D = k + 1 := ⟨D - 1, by omega⟩
  have f233 : 0 ≤ m.1 233 ∧ m.1 233 ≤ 1000000 := hT.1 233
  have f234 : 0 ≤ m.1 234 ∧ m.1 234 ≤ 1000000 := hT.1 234
  refine Tc_of rfl ?_
  rw [show (khp m c, N) = (khp (mO m [] []) c, N) from by rw [mO_nil m]]
  show TT w D pm_41 (0, [(0, .ref 185)], [], (khp (mO m [] []) c, N), 0, 0) (Q_pi_inStages m c N)
  refine T_ld 1 (.ref 185) rfl (fun _ => rfl) ?_
  refine K_gf 4 (.int (i32 (m.1 233))) rfl rfl kd_185 rfl rfl rfl ?_
  refine T_ld 5 (.ref 185) rfl (fun _ => rfl) ?_
  refine K_gf 8 (.int (i32 (m.1 234))) rfl rfl kd_185 rfl rfl rfl ?_
  refine T_isub 9 rfl rfl ?_
  refine T_ret rfl (fun _ => rfl) ?_
  exact ⟨(m.1 233) - (m.1 234), ⟨by omega, by omega⟩, rfl⟩
def fF_pw_feed : List Nat := []
def fA_pw_feed : List Nat := [0]
def Q_pw_feed (m : mR) (c : Nat → Option am_C) (N : Nat) (a : Int) (b : Int) (d : Int) (e : Int) (f : Int) : ag_Re af_T → Prop := fun R => (∃ (M : mR), KTy M ∧ fr fF_pw_feed fA_pw_feed m M ∧ R = (.inl (none), (khp M c, N), 0, 0))
set_option maxHeartbeats 3000000 in
theorem c_pw_feed (w : wX) (m : mR) (c : Nat → Option am_C) (N D : Nat) (hD : 1 ≤ D) (hT : KTy m) (a : Int) (b : Int) (d : Int) (e : Int) (f : Int) (qa : R32 a) (qb : R32 b) (qd : R32 d) (qe : R32 e) (qf : R32 f) : TC w D 23 [.ref 0, .int (i32 a), .int (i32 b), .int (i32 d), .int (i32 e), .int (i32 f)] (khp m c, N) (Q_pw_feed m c N a b d e f) := by
  obtain ⟨D, rfl⟩ : ∃ k, D = k + 1 := ⟨D - 1, by omega⟩
  obtain ⟨qaa, qab⟩ := id qa
  obtain ⟨qba, qbb⟩ := id qb
  obtain ⟨qda, qdb⟩ := id qd
  obtain ⟨qea, qeb⟩ := id qe
  obtain ⟨qfa, qfb⟩ := id qf
  refine Tc_of rfl ?_
  rw [show (khp m c, N) = (khp (mO m [] []) c, N) from by rw [mO_nil m]]
  show TT w D pm_23 (0, [(0, .ref 0), (1, .int (i32 a)), (2, .int (i32 b)), (3, .int (i32 d)), (4, .int (i32 e)), (5, .int (i32 f))], [], (khp (mO m [] []) c, N), 0, 0) (Q_pw_feed m c N a b d e f)
  refine T_ld 1 (.ref 0) rfl (fun _ => rfl) ?_
  refine K_gf 4 (.ref 1) rfl rfl kd_0 rfl rfl rfl ?_
  refine T_ld 5 (.int (i32 0)) rfl (fun _ => rfl) ?_
  refine T_ld 6 (.int (i32 a)) rfl (fun _ => rfl) ?_
  have G1 : ∀ j, (-2147483648) ≤ (upI (m.2 0) 0 a) j ∧ (upI (m.2 0) 0 a) j ≤ 2147483647 := upI_rg (hT.2.1 0) ⟨by omega, by omega⟩
  refine K_iast (a' := [(0, upI (m.2 0) 0 a)]) 7 0 (m.2 0) rfl rfl rfl (by omega) (show 0 < (5 : Int) by omega) rfl rfl ?_
  refine T_ld 8 (.ref 0) rfl (fun _ => rfl) ?_
  refine K_gf 11 (.ref 1) rfl rfl kd_0 rfl rfl rfl ?_
  refine T_ld 12 (.int (i32 1)) rfl (fun _ => rfl) ?_
  refine T_ld 13 (.int (i32 b)) rfl (fun _ => rfl) ?_
  have G2 : ∀ j, (-2147483648) ≤ (upI (upI (m.2 0) 0 a) 1 b) j ∧ (upI (upI (m.2 0) 0 a) 1 b) j ≤ 2147483647 := upI_rg G1 ⟨by omega, by omega⟩
  refine K_iast (a' := [(0, upI (upI (m.2 0) 0 a) 1 b)]) 14 0 (upI (m.2 0) 0 a) rfl rfl rfl (by omega) (show 1 < (5 : Int) by omega) rfl rfl ?_
  refine T_ld 15 (.ref 0) rfl (fun _ => rfl) ?_
  refine K_gf 18 (.ref 1) rfl rfl kd_0 rfl rfl rfl ?_
  refine T_ld 19 (.int (i32 2)) rfl (fun _ => rfl) ?_
  refine T_ld 20 (.int (i32 d)) rfl (fun _ => rfl) ?_
  have G3 : ∀ j, (-2147483648) ≤ (upI (upI (upI (m.2 0) 0 a) 1 b) 2 d) j ∧ (upI (upI (upI (m.2 0) 0 a) 1 b) 2 d) j ≤ 2147483647 := upI_rg G2 ⟨by omega, by omega⟩
  refine K_iast (a' := [(0, upI (upI (upI (m.2 0) 0 a) 1 b) 2 d)]) 21 0 (upI (upI (m.2 0) 0 a) 1 b) rfl rfl rfl (by omega) (show 2 < (5 : Int) by omega) rfl rfl ?_
  refine T_ld 22 (.ref 0) rfl (fun _ => rfl) ?_
  refine K_gf 25 (.ref 1) rfl rfl kd_0 rfl rfl rfl ?_
  refine T_ld 26 (.int (i32 3)) rfl (fun _ => rfl) ?_
  refine T_ld 28 (.int (i32 e)) rfl (fun _ => rfl) ?_
  have G4 : ∀ j, (-2147483648) ≤ (upI (upI (upI (upI (m.2 0) 0 a) 1 b) 2 d) 3 e) j ∧ (upI (upI (upI (upI (m.2 0) 0 a) 1 b) 2 d) 3 e) j ≤ 2147483647 := upI_rg G3 ⟨by omega, by omega⟩
  refine K_iast (a' := [(0, upI (upI (upI (upI (m.2 0) 0 a) 1 b) 2 d) 3 e)]) 29 0 (upI (upI (upI (m.2 0) 0 a) 1 b) 2 d) rfl rfl rfl (by omega) (show 3 < (5 : Int) by omega) rfl rfl ?_
  refine T_ld 30 (.ref 0) rfl (fun _ => rfl) ?_
  refine K_gf 33 (.ref 1) rfl rfl kd_0 rfl rfl rfl ?_
  refine T_ld 34 (.int (i32 4)) rfl (fun _ => rfl) ?_
  refine T_ld 36 (.int (i32 f)) rfl (fun _ => rfl) ?_
  have G5 : ∀ j, (-2147483648) ≤ (upI (upI (upI (upI (upI (m.2 0) 0 a) 1 b) 2 d) 3 e) 4 f) j ∧ (upI (upI (upI (upI (upI (m.2 0) 0 a) 1 b) 2 d) 3 e) 4 f) j ≤ 2147483647 := upI_rg G4 ⟨by omega, by omega⟩
  refine K_iast (a' := [(0, upI (upI (upI (upI (upI (m.2 0) 0 a) 1 b) 2 d) 3 e) 4 f)]) 37 0 (upI (upI (upI (upI (m.2 0) 0 a) 1 b) 2 d) 3 e) rfl rfl rfl (by omega) (show 4 < (5 : Int) by omega) rfl rfl ?_
  refine T_ret rfl (fun _ => rfl) ?_
  exact ⟨(mO m [] [(0, upI (upI (upI (upI (upI (m.2 0) 0 a) 1 b) 2 d) 3 e) 4 f)]), (KTy_mO hT rfl rfl trivial ⟨G5, trivial⟩), (fr_m fr_0 rfl rfl), rfl⟩
def Q_pw_fault (m : mR) (c : Nat → Option am_C) (N : Nat) (u : Int) : ag_Re af_T → Prop := fun R => (∃ (r : Int), ((-2147483648) ≤ r ∧ r ≤ 2147483647) ∧ R = (.inl (some (.int (i32 r))), (khp m c, N), 0, 0))
set_option maxHeartbeats 3000000 in
theorem c_pw_fault (w : wX) (m : mR) (c : Nat → Option am_C) (N D : Nat) (hD : 1 ≤ D) (hT : KTy m) (u : Int) (qu : R32 u) : TC w D 26 [.ref 0, .int (i32 u)] (khp m c, N) (Q_pw_fault m c N u) := by
  obtain ⟨D, rfl⟩ : ∃ k, D = k + 1 := ⟨D - 1, by omega⟩
  obtain ⟨qua, qub⟩ := id qu
  have f211 : 0 ≤ m.1 211 ∧ m.1 211 ≤ 8 := hT.1 211
  have f212 : (-1) ≤ m.1 212 ∧ m.1 212 ≤ 4001 := hT.1 212
  refine Tc_of rfl ?_
  rw [show (khp m c, N) = (khp (mO m [] []) c, N) from by rw [mO_nil m]]
  show TT w D pm_26 (0, [(0, .ref 0), (1, .int (i32 u))], [], (khp (mO m [] []) c, N), 0, 0) (Q_pw_fault m c N u)
  refine T_ld 1 (.int (i32 u)) rfl (fun _ => rfl) ?_
  refine T_if 14 4 rfl rfl rfl (r32 (by omega) (by omega)) (fun (h1 : u ≠ 0) => ?_) (fun (h1 : ¬ (u ≠ 0)) => ?_)
  · skip
    refine T_ld 15 (.int (i32 u)) rfl (fun _ => rfl) ?_
    refine T_ld 16 (.int (i32 1)) rfl (fun _ => rfl) ?_
    refine T_icmp 29 19 rfl rfl rfl (r32 (by omega) (by omega)) ⟨by decide, by decide⟩ (fun (h2 : u ≠ 1) => ?_) (fun (h2 : ¬ (u ≠ 1)) => ?_)
    · skip
      refine T_ld 30 (.int (i32 (-1))) rfl (fun _ => rfl) ?_
      refine T_ret rfl (fun _ => rfl) ?_
      exact ⟨(-1), ⟨by omega, by omega⟩, rfl⟩
    · skip
      refine T_ld 20 (.ref 0) rfl (fun _ => rfl) ?_
      refine K_gf 23 (.ref 6) rfl rfl kd_0 rfl rfl rfl ?_
      refine K_gf 26 (.int (i32 (m.1 212))) rfl rfl kd_6 rfl rfl rfl ?_
      refine T_goto 30 rfl (fun _ => rfl) ?_
      refine T_ret rfl (fun _ => rfl) ?_
      exact ⟨(m.1 212), ⟨by omega, by omega⟩, rfl⟩
  · skip
    refine T_ld 5 (.ref 0) rfl (fun _ => rfl) ?_
    refine K_gf 8 (.ref 6) rfl rfl kd_0 rfl rfl rfl ?_
    refine K_gf 11 (.int (i32 (m.1 211))) rfl rfl kd_6 rfl rfl rfl ?_
    refine T_goto 30 rfl (fun _ => rfl) ?_
    refine T_ret rfl (fun _ => rfl) ?_
    exact ⟨(m.1 211), ⟨by omega, by omega⟩, rfl⟩
def Q_pw_homeless (m : mR) (c : Nat → Option am_C) (N : Nat) : ag_Re af_T → Prop := fun R => (∃ (r : Int), ((-2147483648) ≤ r ∧ r ≤ 2147483647) ∧ R = (.inl (some (.int (i32 r))), (khp m c, N), 0, 0))
set_option maxHeartbeats 3000000 in
theorem c_pw_homeless (w : wX) (m : mR) (c : Nat → Option am_C) (N D : Nat) (hD : 1 ≤ D) (hT : KTy m) : TC w D 30 [.ref 0] (khp m c, N) (Q_pw_homeless m c N) := by
  obtain ⟨D, rfl⟩ : ∃ k, D = k + 1 := ⟨D - 1, by omega⟩
  have f202 : (-1) ≤ m.1 202 ∧ m.1 202 ≤ 47 := hT.1 202
  refine Tc_of rfl ?_
  rw [show (khp m c, N) = (khp (mO m [] []) c, N) from by rw [mO_nil m]]
  show TT w D pm_30 (0, [(0, .ref 0)], [], (khp (mO m [] []) c, N), 0, 0) (Q_pw_homeless m c N)
  refine T_ld 1 (.ref 0) rfl (fun _ => rfl) ?_
  refine K_gf 4 (.int (i32 (m.1 202))) rfl rfl kd_0 rfl rfl rfl ?_
  refine T_ret rfl (fun _ => rfl) ?_
  exact ⟨(m.1 202), ⟨by omega, by omega⟩, rfl⟩
def Q_pw_isLaid (m : mR) (c : Nat → Option am_C) (N : Nat) : ag_Re af_T → Prop := fun R => (∃ (r : Int), (0 ≤ r ∧ r ≤ 1) ∧ (r = 1 → (m.1 201) = 1 ∧ 1 ≤ (m.1 226)) ∧ (r = 0 → (m.1 201) = 0 ∨ (m.1 226) ≤ 0) ∧ R = (.inl (some (.int (i32 r))), (khp m c, N), 0, 0))
set_option maxHeartbeats 3000000 in
theorem c_pw_isLaid (w : wX) (m : mR) (c : Nat → Option am_C) (N D : Nat) (hD : 1 ≤ D) (hT : KTy m) : TC w D 33 [.ref 0] (khp m c, N) (Q_pw_isLaid m c N) := by
  obtain ⟨D, rfl⟩ : ∃ k, D = k + 1 := ⟨D - 1, by omega⟩
  have f201 : 0 ≤ m.1 201 ∧ m.1 201 ≤ 1 := hT.1 201
  have f226 : 0 ≤ m.1 226 ∧ m.1 226 ≤ 12 := hT.1 226
  refine Tc_of rfl ?_
  rw [show (khp m c, N) = (khp (mO m [] []) c, N) from by rw [mO_nil m]]
  show TT w D pm_33 (0, [(0, .ref 0)], [], (khp (mO m [] []) c, N), 0, 0) (Q_pw_isLaid m c N)
  refine T_ld 1 (.ref 0) rfl (fun _ => rfl) ?_
  refine K_gf 4 (.int (i32 (m.1 201))) rfl rfl kd_0 rfl rfl rfl ?_
  refine T_if 24 7 rfl rfl rfl (r32 (by omega) (by omega)) (fun (h1 : (m.1 201) = 0) => ?_) (fun (h1 : ¬ ((m.1 201) = 0)) => ?_)
  · skip
    refine T_ld 25 (.int (i32 0)) rfl (fun _ => rfl) ?_
    refine T_ret rfl (fun _ => rfl) ?_
    exact ⟨0, ⟨by omega, by omega⟩, (show (0 : Int) = 1 → (m.1 201) = 1 ∧ 1 ≤ (m.1 226) by omega), (show (0 : Int) = 0 → (m.1 201) = 0 ∨ (m.1 226) ≤ 0 by omega), rfl⟩
  · skip
    refine T_ld 8 (.ref 0) rfl (fun _ => rfl) ?_
    refine K_gf 11 (.ref 12) rfl rfl kd_0 rfl rfl rfl ?_
    refine K_gf 14 (.ref 59) rfl rfl kd_12 rfl rfl rfl ?_
    refine K_gf 17 (.int (i32 (m.1 226))) rfl rfl kd_59 rfl rfl rfl ?_
    refine T_if 24 20 rfl rfl rfl (r32 (by omega) (by omega)) (fun (h2 : (m.1 226) ≤ 0) => ?_) (fun (h2 : ¬ ((m.1 226) ≤ 0)) => ?_)
    · skip
      refine T_ld 25 (.int (i32 0)) rfl (fun _ => rfl) ?_
      refine T_ret rfl (fun _ => rfl) ?_
      exact ⟨0, ⟨by omega, by omega⟩, (show (0 : Int) = 1 → (m.1 201) = 1 ∧ 1 ≤ (m.1 226) by omega), (show (0 : Int) = 0 → (m.1 201) = 0 ∨ (m.1 226) ≤ 0 by omega), rfl⟩
    · skip
      refine T_ld 21 (.int (i32 1)) rfl (fun _ => rfl) ?_
      refine T_goto 25 rfl (fun _ => rfl) ?_
      refine T_ret rfl (fun _ => rfl) ?_
      exact ⟨1, ⟨by omega, by omega⟩, (show (1 : Int) = 1 → (m.1 201) = 1 ∧ 1 ≤ (m.1 226) by omega), (show (1 : Int) = 0 → (m.1 201) = 0 ∨ (m.1 226) ≤ 0 by omega), rfl⟩
def Q_pw_isTable (m : mR) (c : Nat → Option am_C) (N : Nat) (t : Int) : ag_Re af_T → Prop := fun R => (∃ (r : Int), (0 ≤ r ∧ r ≤ 1) ∧ (r = 1 → (m.1 201) = 1 ∧ 0 ≤ t ∧ t < (m.1 219)) ∧ (r = 0 → (m.1 201) = 0 ∨ t < 0 ∨ (m.1 219) ≤ t) ∧ R = (.inl (some (.int (i32 r))), (khp m c, N), 0, 0))
set_option maxHeartbeats 3000000 in
theorem c_pw_isTable (w : wX) (m : mR) (c : Nat → Option am_C) (N D : Nat) (hD : 1 ≤ D) (hT : KTy m) (t : Int) (qt : R32 t) : TC w D 172 [.ref 0, .int (i32 t)] (khp m c, N) (Q_pw_isTable m c N t) := by
  obtain ⟨D, rfl⟩ : ∃ k, D = k + 1 := ⟨D - 1, by omega⟩
  obtain ⟨qta, qtb⟩ := id qt
  have f201 : 0 ≤ m.1 201 ∧ m.1 201 ≤ 1 := hT.1 201
  have f219 : 0 ≤ m.1 219 ∧ m.1 219 ≤ 8 := hT.1 219
  refine Tc_of rfl ?_
  rw [show (khp m c, N) = (khp (mO m [] []) c, N) from by rw [mO_nil m]]
  show TT w D pm_172 (0, [(0, .ref 0), (1, .int (i32 t))], [], (khp (mO m [] []) c, N), 0, 0) (Q_pw_isTable m c N t)
  refine T_ld 1 (.ref 0) rfl (fun _ => rfl) ?_
  refine K_gf 4 (.int (i32 (m.1 201))) rfl rfl kd_0 rfl rfl rfl ?_
  refine T_if 26 7 rfl rfl rfl (r32 (by omega) (by omega)) (fun (h1 : (m.1 201) = 0) => ?_) (fun (h1 : ¬ ((m.1 201) = 0)) => ?_)
  · skip
    refine T_ld 27 (.int (i32 0)) rfl (fun _ => rfl) ?_
    refine T_ret rfl (fun _ => rfl) ?_
    exact ⟨0, ⟨by omega, by omega⟩, (show (0 : Int) = 1 → (m.1 201) = 1 ∧ 0 ≤ t ∧ t < (m.1 219) by omega), (show (0 : Int) = 0 → (m.1 201) = 0 ∨ t < 0 ∨ (m.1 219) ≤ t by omega), rfl⟩
  · skip
    refine T_ld 8 (.int (i32 t)) rfl (fun _ => rfl) ?_
    refine T_if 26 11 rfl rfl rfl (r32 (by omega) (by omega)) (fun (h2 : t < 0) => ?_) (fun (h2 : ¬ (t < 0)) => ?_)
    · skip
      refine T_ld 27 (.int (i32 0)) rfl (fun _ => rfl) ?_
      refine T_ret rfl (fun _ => rfl) ?_
      exact ⟨0, ⟨by omega, by omega⟩, (show (0 : Int) = 1 → (m.1 201) = 1 ∧ 0 ≤ t ∧ t < (m.1 219) by omega), (show (0 : Int) = 0 → (m.1 201) = 0 ∨ t < 0 ∨ (m.1 219) ≤ t by omega), rfl⟩
    · skip
      refine T_ld 12 (.int (i32 t)) rfl (fun _ => rfl) ?_
      refine T_ld 13 (.ref 0) rfl (fun _ => rfl) ?_
      refine K_gf 16 (.ref 12) rfl rfl kd_0 rfl rfl rfl ?_
      refine K_gf 19 (.int (i32 (m.1 219))) rfl rfl kd_12 rfl rfl rfl ?_
      refine T_icmp 26 22 rfl rfl rfl (r32 (by omega) (by omega)) (r32 (by omega) (by omega)) (fun (h3 : (m.1 219) ≤ t) => ?_) (fun (h3 : ¬ ((m.1 219) ≤ t)) => ?_)
      · skip
        refine T_ld 27 (.int (i32 0)) rfl (fun _ => rfl) ?_
        refine T_ret rfl (fun _ => rfl) ?_
        exact ⟨0, ⟨by omega, by omega⟩, (show (0 : Int) = 1 → (m.1 201) = 1 ∧ 0 ≤ t ∧ t < (m.1 219) by omega), (show (0 : Int) = 0 → (m.1 201) = 0 ∨ t < 0 ∨ (m.1 219) ≤ t by omega), rfl⟩
      · skip
        refine T_ld 23 (.int (i32 1)) rfl (fun _ => rfl) ?_
        refine T_goto 27 rfl (fun _ => rfl) ?_
        refine T_ret rfl (fun _ => rfl) ?_
        exact ⟨1, ⟨by omega, by omega⟩, (show (1 : Int) = 1 → (m.1 201) = 1 ∧ 0 ≤ t ∧ t < (m.1 219) by omega), (show (1 : Int) = 0 → (m.1 201) = 0 ∨ t < 0 ∨ (m.1 219) ≤ t by omega), rfl⟩
def Q_pw_step (m : mR) (c : Nat → Option am_C) (N : Nat) (s : Int) (u : Int) : ag_Re af_T → Prop := fun R => (∃ (r : Int), ((-2147483648) ≤ r ∧ r ≤ 2147483647) ∧ R = (.inl (some (.int (i32 r))), (khp m c, N), 0, 0))
set_option maxHeartbeats 3000000 in
theorem c_pw_step (w : wX) (m : mR) (c : Nat → Option am_C) (N D : Nat) (hD : 1 ≤ D) (hT : KTy m) (s : Int) (u : Int) (qs : R32 s) (qu : R32 u) : TC w D 31 [.ref 0, .int (i32 s), .int (i32 u)] (khp m c, N) (Q_pw_step m c N s u) := by
  obtain ⟨D, rfl⟩ : ∃ k, D = k + 1 := ⟨D - 1, by omega⟩
  obtain ⟨qsa, qsb⟩ := id qs
  obtain ⟨qua, qub⟩ := id qu
  have f201 : 0 ≤ m.1 201 ∧ m.1 201 ≤ 1 := hT.1 201
  have f225 : 0 ≤ m.1 225 ∧ m.1 225 ≤ 48 := hT.1 225
  have f226 : 0 ≤ m.1 226 ∧ m.1 226 ≤ 12 := hT.1 226
  refine Tc_of rfl ?_
  rw [show (khp m c, N) = (khp (mO m [] []) c, N) from by rw [mO_nil m]]
  show TT w D pm_31 (0, [(0, .ref 0), (1, .int (i32 s)), (2, .int (i32 u))], [], (khp (mO m [] []) c, N), 0, 0) (Q_pw_step m c N s u)
  refine T_ld 1 (.ref 0) rfl (fun _ => rfl) ?_
  refine K_gf 4 (.ref 12) rfl rfl kd_0 rfl rfl rfl ?_
  refine K_gf 7 (.ref 59) rfl rfl kd_12 rfl rfl rfl ?_
  refine T_sto 8 [(3, .ref 59), (0, .ref 0), (1, .int (i32 s)), (2, .int (i32 u))] rfl (fun _ => rfl) ?_
  refine T_ld 9 (.ref 0) rfl (fun _ => rfl) ?_
  refine K_gf 12 (.int (i32 (m.1 201))) rfl rfl kd_0 rfl rfl rfl ?_
  refine T_if 27 15 rfl rfl rfl (r32 (by omega) (by omega)) (fun (h1 : (m.1 201) = 0) => ?_) (fun (h1 : ¬ ((m.1 201) = 0)) => ?_)
  · skip
    refine T_ld 28 (.int (i32 (-1))) rfl (fun _ => rfl) ?_
    refine T_ret rfl (fun _ => rfl) ?_
    exact ⟨(-1), ⟨by omega, by omega⟩, rfl⟩
  · skip
    refine T_ld 16 (.int (i32 s)) rfl (fun _ => rfl) ?_
    refine T_if 27 19 rfl rfl rfl (r32 (by omega) (by omega)) (fun (h2 : s < 0) => ?_) (fun (h2 : ¬ (s < 0)) => ?_)
    · skip
      refine T_ld 28 (.int (i32 (-1))) rfl (fun _ => rfl) ?_
      refine T_ret rfl (fun _ => rfl) ?_
      exact ⟨(-1), ⟨by omega, by omega⟩, rfl⟩
    · skip
      refine T_ld 20 (.int (i32 s)) rfl (fun _ => rfl) ?_
      refine T_ld 21 (.ref 59) rfl (fun _ => rfl) ?_
      refine K_gf 24 (.int (i32 (m.1 225))) rfl rfl kd_59 rfl rfl rfl ?_
      refine T_icmp 29 27 rfl rfl rfl (r32 (by omega) (by omega)) (r32 (by omega) (by omega)) (fun (h3 : s < (m.1 225)) => ?_) (fun (h3 : ¬ (s < (m.1 225))) => ?_)
      · skip
        refine T_ld 30 (.int (i32 u)) rfl (fun _ => rfl) ?_
        by_cases h4 : u = 0
        · skip
          refine T_cast 0 h4 ?_
          refine T_pop 56 rfl (fun _ => rfl) ?_
          refine T_ld 57 (.ref 59) rfl (fun _ => rfl) ?_
          refine K_gf 60 (.ref 60) rfl rfl kd_59 rfl rfl rfl ?_
          refine T_ld 61 (.int (i32 s)) rfl (fun _ => rfl) ?_
          refine K_iald 62 52 (m.2 52) rfl rfl rfl (by omega) (show s < (48 : Int) by omega) rfl ?_
          have e5 : 0 ≤ m.2 52 s ∧ m.2 52 s ≤ 2 := hT.2.1 52 s
          refine T_ret rfl (fun _ => rfl) ?_
          exact ⟨(m.2 52) s, ⟨by omega, by omega⟩, rfl⟩
        by_cases h6 : u = 1
        · skip
          refine T_cast 1 h6 ?_
          refine T_pop 63 rfl (fun _ => rfl) ?_
          refine T_ld 64 (.ref 59) rfl (fun _ => rfl) ?_
          refine K_gf 67 (.int (i32 (m.1 226))) rfl rfl kd_59 rfl rfl rfl ?_
          refine T_if 79 70 rfl rfl rfl (r32 (by omega) (by omega)) (fun (h7 : (m.1 226) ≤ 0) => ?_) (fun (h7 : ¬ ((m.1 226) ≤ 0)) => ?_)
          · skip
            refine T_ld 80 (.int (i32 (-1))) rfl (fun _ => rfl) ?_
            refine T_ret rfl (fun _ => rfl) ?_
            exact ⟨(-1), ⟨by omega, by omega⟩, rfl⟩
          · skip
            refine T_ld 71 (.ref 59) rfl (fun _ => rfl) ?_
            refine K_gf 74 (.ref 67) rfl rfl kd_59 rfl rfl rfl ?_
            refine T_ld 75 (.int (i32 s)) rfl (fun _ => rfl) ?_
            refine K_iald 76 59 (m.2 59) rfl rfl rfl (by omega) (show s < (48 : Int) by omega) rfl ?_
            have e8 : 0 ≤ m.2 59 s ∧ m.2 59 s ≤ 11 := hT.2.1 59 s
            refine T_goto 80 rfl (fun _ => rfl) ?_
            refine T_ret rfl (fun _ => rfl) ?_
            exact ⟨(m.2 59) s, ⟨by omega, by omega⟩, rfl⟩
        by_cases h9 : u = 2
        · skip
          refine T_cast 2 h9 ?_
          refine T_pop 81 rfl (fun _ => rfl) ?_
          refine T_ld 82 (.ref 59) rfl (fun _ => rfl) ?_
          refine K_gf 85 (.ref 63) rfl rfl kd_59 rfl rfl rfl ?_
          refine T_ld 86 (.int (i32 s)) rfl (fun _ => rfl) ?_
          refine K_iald 87 55 (m.2 55) rfl rfl rfl (by omega) (show s < (48 : Int) by omega) rfl ?_
          have e10 : (-1) ≤ m.2 55 s ∧ m.2 55 s ≤ 7 := hT.2.1 55 s
          refine T_ret rfl (fun _ => rfl) ?_
          exact ⟨(m.2 55) s, ⟨by omega, by omega⟩, rfl⟩
        refine T_tsd 88 rfl rfl (r32 (by omega) (by omega)) (by omega) ?_
        refine T_ld 89 (.int (i32 (-1))) rfl (fun _ => rfl) ?_
        refine T_ret rfl (fun _ => rfl) ?_
        exact ⟨(-1), ⟨by omega, by omega⟩, rfl⟩
      · skip
        refine T_ld 28 (.int (i32 (-1))) rfl (fun _ => rfl) ?_
        refine T_ret rfl (fun _ => rfl) ?_
        exact ⟨(-1), ⟨by omega, by omega⟩, rfl⟩
def Q_pw_stage (m : mR) (c : Nat → Option am_C) (N : Nat) (k : Int) (u : Int) : ag_Re af_T → Prop := fun R => (∃ (r : Int), ((-2147483648) ≤ r ∧ r ≤ 2147483647) ∧ R = (.inl (some (.int (i32 r))), (khp m c, N), 0, 0))
set_option maxHeartbeats 3000000 in
theorem c_pw_stage (w : wX) (m : mR) (c : Nat → Option am_C) (N D : Nat) (hD : 2 ≤ D) (hT : KTy m) (k : Int) (u : Int) (qk : R32 k) (qu : R32 u) : TC w D 32 [.ref 0, .int (i32 k), .int (i32 u)] (khp m c, N) (Q_pw_stage m c N k u) := by
  obtain ⟨D, rfl⟩ : ∃ k, D = k + 1 := ⟨D - 1, by omega⟩
  obtain ⟨qka, qkb⟩ := id qk
  obtain ⟨qua, qub⟩ := id qu
  have f201 : 0 ≤ m.1 201 ∧ m.1 201 ≤ 1 := hT.1 201
  have f226 : 0 ≤ m.1 226 ∧ m.1 226 ≤ 12 := hT.1 226
  refine Tc_of rfl ?_
  rw [show (khp m c, N) = (khp (mO m [] []) c, N) from by rw [mO_nil m]]
  show TT w D pm_32 (0, [(0, .ref 0), (1, .int (i32 k)), (2, .int (i32 u))], [], (khp (mO m [] []) c, N), 0, 0) (Q_pw_stage m c N k u)
  refine T_ld 1 (.ref 0) rfl (fun _ => rfl) ?_
  refine K_gf 4 (.ref 12) rfl rfl kd_0 rfl rfl rfl ?_
  refine K_gf 7 (.ref 59) rfl rfl kd_12 rfl rfl rfl ?_
  refine T_sto 8 [(3, .ref 59), (0, .ref 0), (1, .int (i32 k)), (2, .int (i32 u))] rfl (fun _ => rfl) ?_
  refine T_ld 9 (.ref 0) rfl (fun _ => rfl) ?_
  refine T_callx 12 33 [.ref 0] [] rfl (fun _ => rfl) rfl rfl (c_pw_isLaid w (mO m [] []) c N D (by omega) hT ) (fun rr1 k2 => ?_)
  obtain ⟨x3, g4, h5, h6, rfl⟩ := k2
  refine Or.inl ⟨_, _, _, _, rfl, ?_⟩
  refine T_ns (st' := [.int (i32 x3)]) rfl ?_
  obtain ⟨g4a, g4b⟩ := g4
  replace h5 : x3 = 1 → (m.1 201) = 1 ∧ 1 ≤ (m.1 226) := h5
  replace h6 : x3 = 0 → (m.1 201) = 0 ∨ (m.1 226) ≤ 0 := h6
  refine T_if 27 15 rfl rfl rfl (r32 (by omega) (by omega)) (fun (h7 : x3 = 0) => ?_) (fun (h7 : ¬ (x3 = 0)) => ?_)
  · skip
    refine T_ld 28 (.int (i32 (-1))) rfl (fun _ => rfl) ?_
    refine T_ret rfl (fun _ => rfl) ?_
    exact ⟨(-1), ⟨by omega, by omega⟩, rfl⟩
  · skip
    refine T_ld 16 (.int (i32 k)) rfl (fun _ => rfl) ?_
    refine T_if 27 19 rfl rfl rfl (r32 (by omega) (by omega)) (fun (h8 : k < 0) => ?_) (fun (h8 : ¬ (k < 0)) => ?_)
    · skip
      refine T_ld 28 (.int (i32 (-1))) rfl (fun _ => rfl) ?_
      refine T_ret rfl (fun _ => rfl) ?_
      exact ⟨(-1), ⟨by omega, by omega⟩, rfl⟩
    · skip
      refine T_ld 20 (.int (i32 k)) rfl (fun _ => rfl) ?_
      refine T_ld 21 (.ref 59) rfl (fun _ => rfl) ?_
      refine K_gf 24 (.int (i32 (m.1 226))) rfl rfl kd_59 rfl rfl rfl ?_
      refine T_icmp 29 27 rfl rfl rfl (r32 (by omega) (by omega)) (r32 (by omega) (by omega)) (fun (h9 : k < (m.1 226)) => ?_) (fun (h9 : ¬ (k < (m.1 226))) => ?_)
      · skip
        refine T_ld 30 (.int (i32 u)) rfl (fun _ => rfl) ?_
        by_cases h10 : u = 0
        · skip
          refine T_cast 0 h10 ?_
          refine T_pop 56 rfl (fun _ => rfl) ?_
          refine T_ld 57 (.ref 59) rfl (fun _ => rfl) ?_
          refine K_gf 60 (.ref 71) rfl rfl kd_59 rfl rfl rfl ?_
          refine T_ld 61 (.int (i32 k)) rfl (fun _ => rfl) ?_
          refine K_iald 62 63 (m.2 63) rfl rfl rfl (by omega) (show k < (12 : Int) by omega) rfl ?_
          have e11 : 0 ≤ m.2 63 k ∧ m.2 63 k ≤ 48 := hT.2.1 63 k
          refine T_ret rfl (fun _ => rfl) ?_
          exact ⟨(m.2 63) k, ⟨by omega, by omega⟩, rfl⟩
        by_cases h12 : u = 1
        · skip
          refine T_cast 1 h12 ?_
          refine T_pop 63 rfl (fun _ => rfl) ?_
          refine T_ld 64 (.ref 59) rfl (fun _ => rfl) ?_
          refine K_gf 67 (.ref 72) rfl rfl kd_59 rfl rfl rfl ?_
          refine T_ld 68 (.int (i32 k)) rfl (fun _ => rfl) ?_
          refine K_iald 69 64 (m.2 64) rfl rfl rfl (by omega) (show k < (12 : Int) by omega) rfl ?_
          have e13 : 0 ≤ m.2 64 k ∧ m.2 64 k ≤ 60000000 := hT.2.1 64 k
          refine T_ret rfl (fun _ => rfl) ?_
          exact ⟨(m.2 64) k, ⟨by omega, by omega⟩, rfl⟩
        by_cases h14 : u = 2
        · skip
          refine T_cast 2 h14 ?_
          refine T_pop 70 rfl (fun _ => rfl) ?_
          refine T_ld 71 (.ref 59) rfl (fun _ => rfl) ?_
          refine K_gf 74 (.ref 73) rfl rfl kd_59 rfl rfl rfl ?_
          refine T_ld 75 (.int (i32 k)) rfl (fun _ => rfl) ?_
          refine K_iald 76 65 (m.2 65) rfl rfl rfl (by omega) (show k < (12 : Int) by omega) rfl ?_
          have e15 : 0 ≤ m.2 65 k ∧ m.2 65 k ≤ 200000 := hT.2.1 65 k
          refine T_ret rfl (fun _ => rfl) ?_
          exact ⟨(m.2 65) k, ⟨by omega, by omega⟩, rfl⟩
        refine T_tsd 77 rfl rfl (r32 (by omega) (by omega)) (by omega) ?_
        refine T_ld 78 (.int (i32 (-1))) rfl (fun _ => rfl) ?_
        refine T_ret rfl (fun _ => rfl) ?_
        exact ⟨(-1), ⟨by omega, by omega⟩, rfl⟩
      · skip
        refine T_ld 28 (.int (i32 (-1))) rfl (fun _ => rfl) ?_
        refine T_ret rfl (fun _ => rfl) ?_
        exact ⟨(-1), ⟨by omega, by omega⟩, rfl⟩
def Q_pw_count (m : mR) (c : Nat → Option am_C) (N : Nat) (u : Int) : ag_Re af_T → Prop := fun R => (∃ (r : Int), ((-2147483648) ≤ r ∧ r ≤ 2147483647) ∧ R = (.inl (some (.int (i32 r))), (khp m c, N), 0, 0))
set_option maxHeartbeats 3000000 in
theorem c_pw_count (w : wX) (m : mR) (c : Nat → Option am_C) (N D : Nat) (hD : 2 ≤ D) (hT : KTy m) (u : Int) (qu : R32 u) : TC w D 39 [.ref 0, .int (i32 u)] (khp m c, N) (Q_pw_count m c N u) := by
  obtain ⟨D, rfl⟩ : ∃ k, D = k + 1 := ⟨D - 1, by omega⟩
  obtain ⟨qua, qub⟩ := id qu
  have f201 : 0 ≤ m.1 201 ∧ m.1 201 ≤ 1 := hT.1 201
  have f226 : 0 ≤ m.1 226 ∧ m.1 226 ≤ 12 := hT.1 226
  have f232 : 0 ≤ m.1 232 ∧ m.1 232 ≤ 1000000 := hT.1 232
  have f233 : 0 ≤ m.1 233 ∧ m.1 233 ≤ 1000000 := hT.1 233
  have f234 : 0 ≤ m.1 234 ∧ m.1 234 ≤ 1000000 := hT.1 234
  have f235 : 0 ≤ m.1 235 ∧ m.1 235 ≤ 100000000 := hT.1 235
  refine Tc_of rfl ?_
  rw [show (khp m c, N) = (khp (mO m [] []) c, N) from by rw [mO_nil m]]
  show TT w D pm_39 (0, [(0, .ref 0), (1, .int (i32 u))], [], (khp (mO m [] []) c, N), 0, 0) (Q_pw_count m c N u)
  refine T_ld 1 (.int (i32 u)) rfl (fun _ => rfl) ?_
  by_cases h1 : u = 0
  · skip
    refine T_cast 0 h1 ?_
    refine T_pop 40 rfl (fun _ => rfl) ?_
    refine T_ld 41 (.ref 0) rfl (fun _ => rfl) ?_
    refine K_gf 44 (.ref 185) rfl rfl kd_0 rfl rfl rfl ?_
    refine K_gf 47 (.int (i32 (m.1 232))) rfl rfl kd_185 rfl rfl rfl ?_
    refine T_ret rfl (fun _ => rfl) ?_
    exact ⟨(m.1 232), ⟨by omega, by omega⟩, rfl⟩
  by_cases h2 : u = 1
  · skip
    refine T_cast 1 h2 ?_
    refine T_pop 48 rfl (fun _ => rfl) ?_
    refine T_ld 49 (.ref 0) rfl (fun _ => rfl) ?_
    refine K_gf 52 (.ref 185) rfl rfl kd_0 rfl rfl rfl ?_
    refine T_callx 55 40 [.ref 185] [] rfl (fun _ => rfl) rfl rfl (c_pi_inLine w (mO m [] []) c N D (by omega) hT ) (fun rr3 k4 => ?_)
    obtain ⟨x5, g6, h7, rfl⟩ := k4
    refine Or.inl ⟨_, _, _, _, rfl, ?_⟩
    refine T_ns (st' := [.int (i32 x5)]) rfl ?_
    obtain ⟨g6a, g6b⟩ := g6
    replace h7 : x5 = (m.1 232) - (m.1 233) := h7
    refine T_ret rfl (fun _ => rfl) ?_
    exact ⟨x5, ⟨by omega, by omega⟩, rfl⟩
  by_cases h8 : u = 2
  · skip
    refine T_cast 2 h8 ?_
    refine T_pop 56 rfl (fun _ => rfl) ?_
    refine T_ld 57 (.ref 0) rfl (fun _ => rfl) ?_
    refine K_gf 60 (.ref 185) rfl rfl kd_0 rfl rfl rfl ?_
    refine T_callx 63 41 [.ref 185] [] rfl (fun _ => rfl) rfl rfl (c_pi_inStages w (mO m [] []) c N D (by omega) hT ) (fun rr9 k10 => ?_)
    obtain ⟨x11, g12, rfl⟩ := k10
    refine Or.inl ⟨_, _, _, _, rfl, ?_⟩
    refine T_ns (st' := [.int (i32 x11)]) rfl ?_
    obtain ⟨g12a, g12b⟩ := g12
    refine T_ret rfl (fun _ => rfl) ?_
    exact ⟨x11, ⟨by omega, by omega⟩, rfl⟩
  by_cases h13 : u = 3
  · skip
    refine T_cast 3 h13 ?_
    refine T_pop 64 rfl (fun _ => rfl) ?_
    refine T_ld 65 (.ref 0) rfl (fun _ => rfl) ?_
    refine K_gf 68 (.ref 185) rfl rfl kd_0 rfl rfl rfl ?_
    refine K_gf 71 (.int (i32 (m.1 234))) rfl rfl kd_185 rfl rfl rfl ?_
    refine T_ret rfl (fun _ => rfl) ?_
    exact ⟨(m.1 234), ⟨by omega, by omega⟩, rfl⟩
  by_cases h14 : u = 4
  · skip
    refine T_cast 4 h14 ?_
    refine T_pop 72 rfl (fun _ => rfl) ?_
    refine T_ld 73 (.ref 0) rfl (fun _ => rfl) ?_
    refine K_gf 76 (.ref 185) rfl rfl kd_0 rfl rfl rfl ?_
    refine K_gf 79 (.int (i32 (m.1 235))) rfl rfl kd_185 rfl rfl rfl ?_
    refine T_ret rfl (fun _ => rfl) ?_
    exact ⟨(m.1 235), ⟨by omega, by omega⟩, rfl⟩
  by_cases h15 : u = 5
  · skip
    refine T_cast 5 h15 ?_
    refine T_pop 80 rfl (fun _ => rfl) ?_
    refine T_ld 81 (.ref 0) rfl (fun _ => rfl) ?_
    refine K_gf 84 (.int (i32 (m.1 201))) rfl rfl kd_0 rfl rfl rfl ?_
    refine T_if 100 87 rfl rfl rfl (r32 (by omega) (by omega)) (fun (h16 : (m.1 201) = 0) => ?_) (fun (h16 : ¬ ((m.1 201) = 0)) => ?_)
    · skip
      refine T_ld 101 (.int (i32 0)) rfl (fun _ => rfl) ?_
      refine T_ret rfl (fun _ => rfl) ?_
      exact ⟨0, ⟨by omega, by omega⟩, rfl⟩
    · skip
      refine T_ld 88 (.ref 0) rfl (fun _ => rfl) ?_
      refine K_gf 91 (.ref 12) rfl rfl kd_0 rfl rfl rfl ?_
      refine K_gf 94 (.ref 59) rfl rfl kd_12 rfl rfl rfl ?_
      refine K_gf 97 (.int (i32 (m.1 226))) rfl rfl kd_59 rfl rfl rfl ?_
      refine T_goto 101 rfl (fun _ => rfl) ?_
      refine T_ret rfl (fun _ => rfl) ?_
      exact ⟨(m.1 226), ⟨by omega, by omega⟩, rfl⟩
  refine T_tsd 102 rfl rfl (r32 (by omega) (by omega)) (by omega) ?_
  refine T_ld 103 (.int (i32 (-1))) rfl (fun _ => rfl) ?_
  refine T_ret rfl (fun _ => rfl) ?_
  exact ⟨(-1), ⟨by omega, by omega⟩, rfl⟩
def Q_pw_size (m : mR) (c : Nat → Option am_C) (N : Nat) (u : Int) : ag_Re af_T → Prop := fun R => (∃ (r : Int), ((-2147483648) ≤ r ∧ r ≤ 2147483647) ∧ R = (.inl (some (.int (i32 r))), (khp m c, N), 0, 0))
set_option maxHeartbeats 3000000 in
theorem c_pw_size (w : wX) (m : mR) (c : Nat → Option am_C) (N D : Nat) (hD : 3 ≤ D) (hT : KTy m) (u : Int) (qu : R32 u) : TC w D 27 [.ref 0, .int (i32 u)] (khp m c, N) (Q_pw_size m c N u) := by
  obtain ⟨D, rfl⟩ : ∃ k, D = k + 1 := ⟨D - 1, by omega⟩
  obtain ⟨qua, qub⟩ := id qu
  have f201 : 0 ≤ m.1 201 ∧ m.1 201 ≤ 1 := hT.1 201
  have f214 : 0 ≤ m.1 214 ∧ m.1 214 ≤ 12 := hT.1 214
  have f215 : 0 ≤ m.1 215 ∧ m.1 215 ≤ 12 := hT.1 215
  have f216 : 0 ≤ m.1 216 ∧ m.1 216 ≤ 16 := hT.1 216
  have f217 : 0 ≤ m.1 217 ∧ m.1 217 ≤ 8 := hT.1 217
  have f219 : 0 ≤ m.1 219 ∧ m.1 219 ≤ 8 := hT.1 219
  have f222 : 0 ≤ m.1 222 ∧ m.1 222 ≤ 16 := hT.1 222
  have f223 : 0 ≤ m.1 223 ∧ m.1 223 ≤ 16 := hT.1 223
  have f225 : 0 ≤ m.1 225 ∧ m.1 225 ≤ 48 := hT.1 225
  refine Tc_of rfl ?_
  rw [show (khp m c, N) = (khp (mO m [] []) c, N) from by rw [mO_nil m]]
  show TT w D pm_27 (0, [(0, .ref 0), (1, .int (i32 u))], [], (khp (mO m [] []) c, N), 0, 0) (Q_pw_size m c N u)
  refine T_ld 1 (.ref 0) rfl (fun _ => rfl) ?_
  refine K_gf 4 (.int (i32 (m.1 201))) rfl rfl kd_0 rfl rfl rfl ?_
  refine T_if 9 7 rfl rfl rfl (r32 (by omega) (by omega)) (fun (h1 : (m.1 201) ≠ 0) => ?_) (fun (h1 : ¬ ((m.1 201) ≠ 0)) => ?_)
  · skip
    refine T_ld 10 (.int (i32 u)) rfl (fun _ => rfl) ?_
    by_cases h2 : u = 0
    · skip
      refine T_cast 0 h2 ?_
      refine T_pop 60 rfl (fun _ => rfl) ?_
      refine T_ld 61 (.ref 0) rfl (fun _ => rfl) ?_
      refine K_gf 64 (.ref 12) rfl rfl kd_0 rfl rfl rfl ?_
      refine K_gf 67 (.int (i32 (m.1 214))) rfl rfl kd_12 rfl rfl rfl ?_
      refine T_ret rfl (fun _ => rfl) ?_
      exact ⟨(m.1 214), ⟨by omega, by omega⟩, rfl⟩
    by_cases h3 : u = 1
    · skip
      refine T_cast 1 h3 ?_
      refine T_pop 68 rfl (fun _ => rfl) ?_
      refine T_ld 69 (.ref 0) rfl (fun _ => rfl) ?_
      refine K_gf 72 (.ref 12) rfl rfl kd_0 rfl rfl rfl ?_
      refine K_gf 75 (.int (i32 (m.1 215))) rfl rfl kd_12 rfl rfl rfl ?_
      refine T_ret rfl (fun _ => rfl) ?_
      exact ⟨(m.1 215), ⟨by omega, by omega⟩, rfl⟩
    by_cases h4 : u = 2
    · skip
      refine T_cast 2 h4 ?_
      refine T_pop 76 rfl (fun _ => rfl) ?_
      refine T_ld 77 (.ref 0) rfl (fun _ => rfl) ?_
      refine K_gf 80 (.ref 12) rfl rfl kd_0 rfl rfl rfl ?_
      refine K_gf 83 (.int (i32 (m.1 216))) rfl rfl kd_12 rfl rfl rfl ?_
      refine T_ret rfl (fun _ => rfl) ?_
      exact ⟨(m.1 216), ⟨by omega, by omega⟩, rfl⟩
    by_cases h5 : u = 3
    · skip
      refine T_cast 3 h5 ?_
      refine T_pop 84 rfl (fun _ => rfl) ?_
      refine T_ld 85 (.ref 0) rfl (fun _ => rfl) ?_
      refine K_gf 88 (.ref 12) rfl rfl kd_0 rfl rfl rfl ?_
      refine K_gf 91 (.int (i32 (m.1 217))) rfl rfl kd_12 rfl rfl rfl ?_
      refine T_ret rfl (fun _ => rfl) ?_
      exact ⟨(m.1 217), ⟨by omega, by omega⟩, rfl⟩
    by_cases h6 : u = 4
    · skip
      refine T_cast 4 h6 ?_
      refine T_pop 92 rfl (fun _ => rfl) ?_
      refine T_ld 93 (.ref 0) rfl (fun _ => rfl) ?_
      refine K_gf 96 (.ref 12) rfl rfl kd_0 rfl rfl rfl ?_
      refine K_gf 99 (.ref 31) rfl rfl kd_12 rfl rfl rfl ?_
      refine K_gf 102 (.int (i32 (m.1 222))) rfl rfl kd_31 rfl rfl rfl ?_
      refine T_ret rfl (fun _ => rfl) ?_
      exact ⟨(m.1 222), ⟨by omega, by omega⟩, rfl⟩
    by_cases h7 : u = 5
    · skip
      refine T_cast 5 h7 ?_
      refine T_pop 103 rfl (fun _ => rfl) ?_
      refine T_ld 104 (.ref 0) rfl (fun _ => rfl) ?_
      refine K_gf 107 (.ref 12) rfl rfl kd_0 rfl rfl rfl ?_
      refine K_gf 110 (.ref 45) rfl rfl kd_12 rfl rfl rfl ?_
      refine K_gf 113 (.int (i32 (m.1 223))) rfl rfl kd_45 rfl rfl rfl ?_
      refine T_ret rfl (fun _ => rfl) ?_
      exact ⟨(m.1 223), ⟨by omega, by omega⟩, rfl⟩
    by_cases h8 : u = 6
    · skip
      refine T_cast 6 h8 ?_
      refine T_pop 114 rfl (fun _ => rfl) ?_
      refine T_ld 115 (.ref 0) rfl (fun _ => rfl) ?_
      refine K_gf 118 (.ref 12) rfl rfl kd_0 rfl rfl rfl ?_
      refine K_gf 121 (.int (i32 (m.1 219))) rfl rfl kd_12 rfl rfl rfl ?_
      refine T_ret rfl (fun _ => rfl) ?_
      exact ⟨(m.1 219), ⟨by omega, by omega⟩, rfl⟩
    by_cases h9 : u = 7
    · skip
      refine T_cast 7 h9 ?_
      refine T_pop 122 rfl (fun _ => rfl) ?_
      refine T_ld 123 (.ref 0) rfl (fun _ => rfl) ?_
      refine K_gf 126 (.ref 12) rfl rfl kd_0 rfl rfl rfl ?_
      refine K_gf 129 (.ref 59) rfl rfl kd_12 rfl rfl rfl ?_
      refine K_gf 132 (.int (i32 (m.1 225))) rfl rfl kd_59 rfl rfl rfl ?_
      refine T_ret rfl (fun _ => rfl) ?_
      exact ⟨(m.1 225), ⟨by omega, by omega⟩, rfl⟩
    by_cases h10 : u = 8
    · skip
      refine T_cast 8 h10 ?_
      refine T_pop 133 rfl (fun _ => rfl) ?_
      refine T_ld 134 (.ref 0) rfl (fun _ => rfl) ?_
      refine K_gf 137 (.ref 12) rfl rfl kd_0 rfl rfl rfl ?_
      refine T_callx 140 28 [.ref 12] [] rfl (fun _ => rfl) rfl rfl (c_pr_instanceBits w (mO m [] []) c N D (by omega) hT ) (fun rr11 k12 => ?_)
      obtain ⟨x13, g14, rfl⟩ := k12
      refine Or.inl ⟨_, _, _, _, rfl, ?_⟩
      refine T_ns (st' := [.int (i32 x13)]) rfl ?_
      obtain ⟨g14a, g14b⟩ := g14
      refine T_ret rfl (fun _ => rfl) ?_
      exact ⟨x13, ⟨by omega, by omega⟩, rfl⟩
    refine T_tsd 141 rfl rfl (r32 (by omega) (by omega)) (by omega) ?_
    refine T_ld 142 (.int (i32 (-1))) rfl (fun _ => rfl) ?_
    refine T_ret rfl (fun _ => rfl) ?_
    exact ⟨(-1), ⟨by omega, by omega⟩, rfl⟩
  · skip
    refine T_ld 8 (.int (i32 (-1))) rfl (fun _ => rfl) ?_
    refine T_ret rfl (fun _ => rfl) ?_
    exact ⟨(-1), ⟨by omega, by omega⟩, rfl⟩
def Q_fm_top (m : mR) (c : Nat → Option am_C) (N : Nat) : ag_Re af_T → Prop := fun R => (∃ (r : Int), ((-1) ≤ r ∧ r ≤ 65535) ∧ (1 ≤ (m.1 228) ∧ r = (m.2 68) ((m.1 228) - 1) ∨ (m.1 228) = 0 ∧ r = -1) ∧ R = (.inl (some (.int (i32 r))), (khp m c, N), 0, 0))
set_option maxHeartbeats 3000000 in
theorem c_fm_top (w : wX) (m : mR) (c : Nat → Option am_C) (N D : Nat) (hD : 1 ≤ D) (hT : KTy m) : TC w D 104 [.ref 181] (khp m c, N) (Q_fm_top m c N) := by
  obtain ⟨D, rfl⟩ : ∃ k, D = k + 1 := ⟨D - 1, by omega⟩
  have f228 : 0 ≤ m.1 228 ∧ m.1 228 ≤ 288 := hT.1 228
  refine Tc_of rfl ?_
  rw [show (khp m c, N) = (khp (mO m [] []) c, N) from by rw [mO_nil m]]
  show TT w D pm_104 (0, [(0, .ref 181)], [], (khp (mO m [] []) c, N), 0, 0) (Q_fm_top m c N)
  refine T_ld 1 (.ref 181) rfl (fun _ => rfl) ?_
  refine K_gf 4 (.int (i32 (m.1 228))) rfl rfl kd_181 rfl rfl rfl ?_
  refine T_if 21 7 rfl rfl rfl (r32 (by omega) (by omega)) (fun (h1 : (m.1 228) ≤ 0) => ?_) (fun (h1 : ¬ ((m.1 228) ≤ 0)) => ?_)
  · skip
    refine T_ld 22 (.int (i32 (-1))) rfl (fun _ => rfl) ?_
    refine T_ret rfl (fun _ => rfl) ?_
    exact ⟨(-1), ⟨by omega, by omega⟩, (show 1 ≤ (m.1 228) ∧ (-1 : Int) = (m.2 68) ((m.1 228) - 1) ∨ (m.1 228) = 0 ∧ (-1 : Int) = -1 by first | (first | exact Or.inl ⟨by omega, rfl⟩ | exact Or.inr ⟨by omega, rfl⟩) | (exfalso; omega)), rfl⟩
  · skip
    refine T_ld 8 (.ref 181) rfl (fun _ => rfl) ?_
    refine K_gf 11 (.ref 182) rfl rfl kd_181 rfl rfl rfl ?_
    refine T_ld 12 (.ref 181) rfl (fun _ => rfl) ?_
    refine K_gf 15 (.int (i32 (m.1 228))) rfl rfl kd_181 rfl rfl rfl ?_
    refine T_ld 16 (.int (i32 1)) rfl (fun _ => rfl) ?_
    refine T_isub 17 rfl rfl ?_
    refine K_iald 18 68 (m.2 68) rfl rfl rfl (by omega) (show ((m.1 228) - 1) < (288 : Int) by omega) rfl ?_
    have e2 : (-1) ≤ m.2 68 ((m.1 228) - 1) ∧ m.2 68 ((m.1 228) - 1) ≤ 65535 := hT.2.1 68 ((m.1 228) - 1)
    refine T_goto 22 rfl (fun _ => rfl) ?_
    refine T_ret rfl (fun _ => rfl) ?_
    exact ⟨(m.2 68) ((m.1 228) - 1), ⟨by omega, by omega⟩, (show 1 ≤ (m.1 228) ∧ ((m.2 68) ((m.1 228) - 1)) = (m.2 68) ((m.1 228) - 1) ∨ (m.1 228) = 0 ∧ ((m.2 68) ((m.1 228) - 1)) = -1 by first | (first | exact Or.inl ⟨by omega, rfl⟩ | exact Or.inr ⟨by omega, rfl⟩) | (exfalso; omega)), rfl⟩
def Q_fm_isSingle (m : mR) (c : Nat → Option am_C) (N : Nat) (x : Int) : ag_Re af_T → Prop := fun R => (∃ (r : Int), (0 ≤ r ∧ r ≤ 1) ∧ (r = 1 → x = 405 ∨ x = 126 ∨ x = 33) ∧ R = (.inl (some (.int (i32 r))), (khp m c, N), 0, 0))
set_option maxHeartbeats 3000000 in
theorem c_fm_isSingle (w : wX) (m : mR) (c : Nat → Option am_C) (N D : Nat) (hD : 1 ≤ D) (hT : KTy m) (x : Int) (qx : R32 x) : TC w D 105 [.int (i32 x)] (khp m c, N) (Q_fm_isSingle m c N x) := by
  obtain ⟨D, rfl⟩ : ∃ k, D = k + 1 := ⟨D - 1, by omega⟩
  obtain ⟨qxa, qxb⟩ := id qx
  refine Tc_of rfl ?_
  rw [show (khp m c, N) = (khp (mO m [] []) c, N) from by rw [mO_nil m]]
  show TT w D pm_105 (0, [(0, .int (i32 x))], [], (khp (mO m [] []) c, N), 0, 0) (Q_fm_isSingle m c N x)
  refine T_ld 1 (.int (i32 x)) rfl (fun _ => rfl) ?_
  refine T_ld 4 (.int (i32 405)) rfl (fun _ => rfl) ?_
  refine T_icmp 19 7 rfl rfl rfl (r32 (by omega) (by omega)) ⟨by decide, by decide⟩ (fun (h1 : x = 405) => ?_) (fun (h1 : ¬ (x = 405)) => ?_)
  · skip
    refine T_ld 20 (.int (i32 1)) rfl (fun _ => rfl) ?_
    refine T_goto 24 rfl (fun _ => rfl) ?_
    refine T_ret rfl (fun _ => rfl) ?_
    exact ⟨1, ⟨by omega, by omega⟩, (show (1 : Int) = 1 → x = 405 ∨ x = 126 ∨ x = 33 by omega), rfl⟩
  · skip
    refine T_ld 8 (.int (i32 x)) rfl (fun _ => rfl) ?_
    refine T_ld 10 (.int (i32 126)) rfl (fun _ => rfl) ?_
    refine T_icmp 19 13 rfl rfl rfl (r32 (by omega) (by omega)) ⟨by decide, by decide⟩ (fun (h2 : x = 126) => ?_) (fun (h2 : ¬ (x = 126)) => ?_)
    · skip
      refine T_ld 20 (.int (i32 1)) rfl (fun _ => rfl) ?_
      refine T_goto 24 rfl (fun _ => rfl) ?_
      refine T_ret rfl (fun _ => rfl) ?_
      exact ⟨1, ⟨by omega, by omega⟩, (show (1 : Int) = 1 → x = 405 ∨ x = 126 ∨ x = 33 by omega), rfl⟩
    · skip
      refine T_ld 14 (.int (i32 x)) rfl (fun _ => rfl) ?_
      refine T_ld 16 (.int (i32 33)) rfl (fun _ => rfl) ?_
      refine T_icmp 23 19 rfl rfl rfl (r32 (by omega) (by omega)) ⟨by decide, by decide⟩ (fun (h3 : x ≠ 33) => ?_) (fun (h3 : ¬ (x ≠ 33)) => ?_)
      · skip
        refine T_ld 24 (.int (i32 0)) rfl (fun _ => rfl) ?_
        refine T_ret rfl (fun _ => rfl) ?_
        exact ⟨0, ⟨by omega, by omega⟩, (show (0 : Int) = 1 → x = 405 ∨ x = 126 ∨ x = 33 by omega), rfl⟩
      · skip
        refine T_ld 20 (.int (i32 1)) rfl (fun _ => rfl) ?_
        refine T_goto 24 rfl (fun _ => rfl) ?_
        refine T_ret rfl (fun _ => rfl) ?_
        exact ⟨1, ⟨by omega, by omega⟩, (show (1 : Int) = 1 → x = 405 ∨ x = 126 ∨ x = 33 by omega), rfl⟩
def Q_fm_levelOf (m : mR) (c : Nat → Option am_C) (N : Nat) (x : Int) : ag_Re af_T → Prop := fun R => (∃ (r : Int), (0 ≤ r ∧ r ≤ 9) ∧ (1 ≤ r → PRq x) ∧ (r = 0 → ¬ PRq x) ∧ R = (.inl (some (.int (i32 r))), (khp m c, N), 0, 0))
set_option maxHeartbeats 3000000 in
theorem c_fm_levelOf (w : wX) (m : mR) (c : Nat → Option am_C) (N D : Nat) (hD : 1 ≤ D) (hT : KTy m) (x : Int) (qx : R32 x) : TC w D 108 [.int (i32 x)] (khp m c, N) (Q_fm_levelOf m c N x) := by
  obtain ⟨D, rfl⟩ : ∃ k, D = k + 1 := ⟨D - 1, by omega⟩
  obtain ⟨qxa, qxb⟩ := id qx
  refine Tc_of rfl ?_
  rw [show (khp m c, N) = (khp (mO m [] []) c, N) from by rw [mO_nil m]]
  show TT w D pm_108 (0, [(0, .int (i32 x))], [], (khp (mO m [] []) c, N), 0, 0) (Q_fm_levelOf m c N x)
  refine T_ld 1 (.int (i32 x)) rfl (fun _ => rfl) ?_
  have T144_1 : (x = 60 ∨ x = 62 ∨ x = 8509 ∨ x = 15421 ∨ x = 15677 ∨ x = 15933) → TT w D pm_108 (144, [(0, .int (i32 x))], [], (khp (mO m [] []) c, N), 0, 0) (Q_fm_levelOf m c N x) := by
    intro ht2
    refine T_ld 145 (.int (i32 3)) rfl (fun _ => rfl) ?_
    refine T_ret rfl (fun _ => rfl) ?_
    exact ⟨3, ⟨by omega, by omega⟩, (show 1 ≤ (3 : Int) → PRq x by first | (first | exact fun h => absurd h (by omega) | exact fun _ => (by unfold PRq; omega)) | (exfalso; omega)), (show (3 : Int) = 0 → ¬ PRq x by first | (first | exact fun h => absurd h (by omega) | exact fun _ => (by unfold PRq; omega)) | (exfalso; omega)), rfl⟩
  have T153_3 : (x = 15420 ∨ x = 15934) → TT w D pm_108 (153, [(0, .int (i32 x))], [], (khp (mO m [] []) c, N), 0, 0) (Q_fm_levelOf m c N x) := by
    intro ht4
    refine T_ld 155 (.int (i32 7)) rfl (fun _ => rfl) ?_
    refine T_ret rfl (fun _ => rfl) ?_
    exact ⟨7, ⟨by omega, by omega⟩, (show 1 ≤ (7 : Int) → PRq x by first | (first | exact fun h => absurd h (by omega) | exact fun _ => (by unfold PRq; omega)) | (exfalso; omega)), (show (7 : Int) = 0 → ¬ PRq x by first | (first | exact fun h => absurd h (by omega) | exact fun _ => (by unfold PRq; omega)) | (exfalso; omega)), rfl⟩
  have T156_5 : (x = 43 ∨ x = 45) → TT w D pm_108 (156, [(0, .int (i32 x))], [], (khp (mO m [] []) c, N), 0, 0) (Q_fm_levelOf m c N x) := by
    intro ht6
    refine T_ld 158 (.int (i32 8)) rfl (fun _ => rfl) ?_
    refine T_ret rfl (fun _ => rfl) ?_
    exact ⟨8, ⟨by omega, by omega⟩, (show 1 ≤ (8 : Int) → PRq x by first | (first | exact fun h => absurd h (by omega) | exact fun _ => (by unfold PRq; omega)) | (exfalso; omega)), (show (8 : Int) = 0 → ¬ PRq x by first | (first | exact fun h => absurd h (by omega) | exact fun _ => (by unfold PRq; omega)) | (exfalso; omega)), rfl⟩
  by_cases h7 : x = 38
  · skip
    refine T_cast 38 h7 ?_
    refine T_pop 150 rfl (fun _ => rfl) ?_
    refine T_ld 152 (.int (i32 6)) rfl (fun _ => rfl) ?_
    refine T_ret rfl (fun _ => rfl) ?_
    exact ⟨6, ⟨by omega, by omega⟩, (show 1 ≤ (6 : Int) → PRq x by first | (first | exact fun h => absurd h (by omega) | exact fun _ => (by unfold PRq; omega)) | (exfalso; omega)), (show (6 : Int) = 0 → ¬ PRq x by first | (first | exact fun h => absurd h (by omega) | exact fun _ => (by unfold PRq; omega)) | (exfalso; omega)), rfl⟩
  by_cases h8 : x = 43
  · skip
    refine T_cast 43 h8 ?_
    refine T_pop 156 rfl (fun _ => rfl) ?_
    exact T156_5 (by omega)
  by_cases h9 : x = 45
  · skip
    refine T_cast 45 h9 ?_
    refine T_pop 156 rfl (fun _ => rfl) ?_
    exact T156_5 (by omega)
  by_cases h10 : x = 60
  · skip
    refine T_cast 60 h10 ?_
    refine T_pop 144 rfl (fun _ => rfl) ?_
    exact T144_1 (by omega)
  by_cases h11 : x = 62
  · skip
    refine T_cast 62 h11 ?_
    refine T_pop 144 rfl (fun _ => rfl) ?_
    exact T144_1 (by omega)
  by_cases h12 : x = 94
  · skip
    refine T_cast 94 h12 ?_
    refine T_pop 148 rfl (fun _ => rfl) ?_
    refine T_ld 149 (.int (i32 5)) rfl (fun _ => rfl) ?_
    refine T_ret rfl (fun _ => rfl) ?_
    exact ⟨5, ⟨by omega, by omega⟩, (show 1 ≤ (5 : Int) → PRq x by first | (first | exact fun h => absurd h (by omega) | exact fun _ => (by unfold PRq; omega)) | (exfalso; omega)), (show (5 : Int) = 0 → ¬ PRq x by first | (first | exact fun h => absurd h (by omega) | exact fun _ => (by unfold PRq; omega)) | (exfalso; omega)), rfl⟩
  by_cases h13 : x = 124
  · skip
    refine T_cast 124 h13 ?_
    refine T_pop 146 rfl (fun _ => rfl) ?_
    refine T_ld 147 (.int (i32 4)) rfl (fun _ => rfl) ?_
    refine T_ret rfl (fun _ => rfl) ?_
    exact ⟨4, ⟨by omega, by omega⟩, (show 1 ≤ (4 : Int) → PRq x by first | (first | exact fun h => absurd h (by omega) | exact fun _ => (by unfold PRq; omega)) | (exfalso; omega)), (show (4 : Int) = 0 → ¬ PRq x by first | (first | exact fun h => absurd h (by omega) | exact fun _ => (by unfold PRq; omega)) | (exfalso; omega)), rfl⟩
  by_cases h14 : x = 8509
  · skip
    refine T_cast 8509 h14 ?_
    refine T_pop 144 rfl (fun _ => rfl) ?_
    exact T144_1 (by omega)
  by_cases h15 : x = 9766
  · skip
    refine T_cast 9766 h15 ?_
    refine T_pop 142 rfl (fun _ => rfl) ?_
    refine T_ld 143 (.int (i32 2)) rfl (fun _ => rfl) ?_
    refine T_ret rfl (fun _ => rfl) ?_
    exact ⟨2, ⟨by omega, by omega⟩, (show 1 ≤ (2 : Int) → PRq x by first | (first | exact fun h => absurd h (by omega) | exact fun _ => (by unfold PRq; omega)) | (exfalso; omega)), (show (2 : Int) = 0 → ¬ PRq x by first | (first | exact fun h => absurd h (by omega) | exact fun _ => (by unfold PRq; omega)) | (exfalso; omega)), rfl⟩
  by_cases h16 : x = 11051
  · skip
    refine T_cast 11051 h16 ?_
    refine T_pop 159 rfl (fun _ => rfl) ?_
    refine T_ld 161 (.int (i32 9)) rfl (fun _ => rfl) ?_
    refine T_ret rfl (fun _ => rfl) ?_
    exact ⟨9, ⟨by omega, by omega⟩, (show 1 ≤ (9 : Int) → PRq x by first | (first | exact fun h => absurd h (by omega) | exact fun _ => (by unfold PRq; omega)) | (exfalso; omega)), (show (9 : Int) = 0 → ¬ PRq x by first | (first | exact fun h => absurd h (by omega) | exact fun _ => (by unfold PRq; omega)) | (exfalso; omega)), rfl⟩
  by_cases h17 : x = 15420
  · skip
    refine T_cast 15420 h17 ?_
    refine T_pop 153 rfl (fun _ => rfl) ?_
    exact T153_3 (by omega)
  by_cases h18 : x = 15421
  · skip
    refine T_cast 15421 h18 ?_
    refine T_pop 144 rfl (fun _ => rfl) ?_
    exact T144_1 (by omega)
  by_cases h19 : x = 15677
  · skip
    refine T_cast 15677 h19 ?_
    refine T_pop 144 rfl (fun _ => rfl) ?_
    exact T144_1 (by omega)
  by_cases h20 : x = 15933
  · skip
    refine T_cast 15933 h20 ?_
    refine T_pop 144 rfl (fun _ => rfl) ?_
    exact T144_1 (by omega)
  by_cases h21 : x = 15934
  · skip
    refine T_cast 15934 h21 ?_
    refine T_pop 153 rfl (fun _ => rfl) ?_
    exact T153_3 (by omega)
  by_cases h22 : x = 31868
  · skip
    refine T_cast 31868 h22 ?_
    refine T_pop 140 rfl (fun _ => rfl) ?_
    refine T_ld 141 (.int (i32 1)) rfl (fun _ => rfl) ?_
    refine T_ret rfl (fun _ => rfl) ?_
    exact ⟨1, ⟨by omega, by omega⟩, (show 1 ≤ (1 : Int) → PRq x by first | (first | exact fun h => absurd h (by omega) | exact fun _ => (by unfold PRq; omega)) | (exfalso; omega)), (show (1 : Int) = 0 → ¬ PRq x by first | (first | exact fun h => absurd h (by omega) | exact fun _ => (by unfold PRq; omega)) | (exfalso; omega)), rfl⟩
  refine T_lkd 162 rfl rfl (r32 (by omega) (by omega)) (by simp [Op.lookupswitch.offset, show ¬ ((38 : Int) = x) by omega, show ¬ ((43 : Int) = x) by omega, show ¬ ((45 : Int) = x) by omega, show ¬ ((60 : Int) = x) by omega, show ¬ ((62 : Int) = x) by omega, show ¬ ((94 : Int) = x) by omega, show ¬ ((124 : Int) = x) by omega, show ¬ ((8509 : Int) = x) by omega, show ¬ ((9766 : Int) = x) by omega, show ¬ ((11051 : Int) = x) by omega, show ¬ ((15420 : Int) = x) by omega, show ¬ ((15421 : Int) = x) by omega, show ¬ ((15677 : Int) = x) by omega, show ¬ ((15933 : Int) = x) by omega, show ¬ ((15934 : Int) = x) by omega, show ¬ ((31868 : Int) = x) by omega]) ?_
  refine T_ld 163 (.int (i32 0)) rfl (fun _ => rfl) ?_
  refine T_ret rfl (fun _ => rfl) ?_
  exact ⟨0, ⟨by omega, by omega⟩, (show 1 ≤ (0 : Int) → PRq x by first | (first | exact fun h => absurd h (by omega) | exact fun _ => (by unfold PRq; omega)) | (exfalso; omega)), (show (0 : Int) = 0 → ¬ PRq x by first | (first | exact fun h => absurd h (by omega) | exact fun _ => (by unfold PRq; omega)) | (exfalso; omega)), rfl⟩
def Q_rd_isStatement (m : mR) (c : Nat → Option am_C) (N : Nat) : ag_Re af_T → Prop := fun R => (∃ (r : Int), (0 ≤ r ∧ r ≤ 1) ∧ (r = 1 → (m.1 206) = 256 ∨ 324 ≤ (m.1 206) ∧ (m.1 206) ≤ 328) ∧ R = (.inl (some (.int (i32 r))), (khp m c, N), 0, 0))
set_option maxHeartbeats 3000000 in
theorem c_rd_isStatement (w : wX) (m : mR) (c : Nat → Option am_C) (N D : Nat) (hD : 1 ≤ D) (hT : KTy m) : TC w D 121 [.ref 178] (khp m c, N) (Q_rd_isStatement m c N) := by
  obtain ⟨D, rfl⟩ : ∃ k, D = k + 1 := ⟨D - 1, by omega⟩
  have f206 : (-1) ≤ m.1 206 ∧ m.1 206 ≤ 65535 := hT.1 206
  refine Tc_of rfl ?_
  rw [show (khp m c, N) = (khp (mO m [] []) c, N) from by rw [mO_nil m]]
  show TT w D pm_121 (0, [(0, .ref 178)], [], (khp (mO m [] []) c, N), 0, 0) (Q_rd_isStatement m c N)
  refine T_ld 1 (.ref 178) rfl (fun _ => rfl) ?_
  refine K_gf 4 (.ref 6) rfl rfl kd_178 rfl rfl rfl ?_
  refine K_gf 7 (.int (i32 (m.1 206))) rfl rfl kd_6 rfl rfl rfl ?_
  have T64_1 : ((m.1 206) = 256 ∨ (m.1 206) = 324 ∨ (m.1 206) = 325 ∨ (m.1 206) = 326 ∨ (m.1 206) = 327 ∨ (m.1 206) = 328) → TT w D pm_121 (64, [(0, .ref 178)], [], (khp (mO m [] []) c, N), 0, 0) (Q_rd_isStatement m c N) := by
    intro ht2
    refine T_ld 65 (.int (i32 1)) rfl (fun _ => rfl) ?_
    refine T_ret rfl (fun _ => rfl) ?_
    exact ⟨1, ⟨by omega, by omega⟩, (show (1 : Int) = 1 → (m.1 206) = 256 ∨ 324 ≤ (m.1 206) ∧ (m.1 206) ≤ 328 by omega), rfl⟩
  by_cases h3 : (m.1 206) = 256
  · skip
    refine T_cast 256 h3 ?_
    refine T_pop 64 rfl (fun _ => rfl) ?_
    exact T64_1 (by omega)
  by_cases h4 : (m.1 206) = 324
  · skip
    refine T_cast 324 h4 ?_
    refine T_pop 64 rfl (fun _ => rfl) ?_
    exact T64_1 (by omega)
  by_cases h5 : (m.1 206) = 325
  · skip
    refine T_cast 325 h5 ?_
    refine T_pop 64 rfl (fun _ => rfl) ?_
    exact T64_1 (by omega)
  by_cases h6 : (m.1 206) = 326
  · skip
    refine T_cast 326 h6 ?_
    refine T_pop 64 rfl (fun _ => rfl) ?_
    exact T64_1 (by omega)
  by_cases h7 : (m.1 206) = 327
  · skip
    refine T_cast 327 h7 ?_
    refine T_pop 64 rfl (fun _ => rfl) ?_
    exact T64_1 (by omega)
  by_cases h8 : (m.1 206) = 328
  · skip
    refine T_cast 328 h8 ?_
    refine T_pop 64 rfl (fun _ => rfl) ?_
    exact T64_1 (by omega)
  refine T_lkd 66 rfl rfl (r32 (by omega) (by omega)) (by simp [Op.lookupswitch.offset, show ¬ ((256 : Int) = (m.1 206)) by omega, show ¬ ((324 : Int) = (m.1 206)) by omega, show ¬ ((325 : Int) = (m.1 206)) by omega, show ¬ ((326 : Int) = (m.1 206)) by omega, show ¬ ((327 : Int) = (m.1 206)) by omega, show ¬ ((328 : Int) = (m.1 206)) by omega]) ?_
  refine T_ld 67 (.int (i32 0)) rfl (fun _ => rfl) ?_
  refine T_ret rfl (fun _ => rfl) ?_
  exact ⟨0, ⟨by omega, by omega⟩, (show (0 : Int) = 1 → (m.1 206) = 256 ∨ 324 ≤ (m.1 206) ∧ (m.1 206) ≤ 328 by omega), rfl⟩
