def fF_key2 : List Nat := [1]
def fA_key2 : List Nat := [145, 146]
def Q_key2 (m : mR) (c : Nat → Option am_C) (N : Nat) (i : Int) (v : Int) (u : Int) : ag_Re af_T → Prop := fun R => ∃ (M : mR), Ty M ∧ fr fF_key2 fA_key2 m M ∧ (((i < 0 ∨ 3 < i) ∧ (M.1 1) = 1) ∨ (0 ≤ i ∧ i ≤ 3 ∧ (M.1 1) = 0)) ∧ R = (.inl (none), (mhp M c, N), 0, 0)
set_option maxHeartbeats 3000000 in
theorem c_key2 (w : wX) (m : mR) (c : Nat → Option am_C) (N D : Nat) (hD : 2 ≤ D) (hT : Ty m) (i : Int) (v : Int) (u : Int) (qi : R32 i) (qv : R64 v) (qu : R64 u) : TC w D 309 [.ref 189, .int (i32 i), .long (i64 v), .long (i64 u)] (mhp m c, N) (Q_key2 m c N i v u) := by
  obtain ⟨D, rfl⟩ : ∃ k, D = k + 1 := ⟨D - 1, by omega⟩
  obtain ⟨qia, qib⟩ := id qi
  obtain ⟨qva, qvb⟩ := id qv
  obtain ⟨qua, qub⟩ := id qu
  have f1 : 0 ≤ m.1 1 ∧ m.1 1 ≤ 3 := hT.1 1
  refine Tc_of rfl ?_
  show TT w D pm_309 (0, [(0, .ref 189), (1, .int (i32 i)), (2, .long (i64 v)), (4, .long (i64 u))], [], (mhp (mO m [] []) c, N), 0, 0) (Q_key2 m c N i v u)
  refine T_ld 1 (.ref 189) rfl (fun _ => rfl) ?_
  refine T_ld 2 (.int (i32 i)) rfl (fun _ => rfl) ?_
  refine T_ld 3 (.int (i32 4)) rfl (fun _ => rfl) ?_
  refine T_call 6 305 [.int (i32 i), .int (i32 4)] [.ref 189] rfl (fun _ => rfl) rfl (c_in w (mO m [] []) c N D (by omega) hT i 4 (r32 (by omega) (by omega)) ⟨by decide, by decide⟩) (fun rr1 k2 => ?_)
  obtain ⟨x3, g4, h5, rfl⟩ := k2
  refine ⟨_, _, rfl, ?_⟩
  refine T_ns (st' := [.int (i32 x3), .ref 189]) rfl ?_
  obtain ⟨g4a, g4b⟩ := g4
  replace h5 : x3 = 1 ↔ (0 ≤ i ∧ i < (4 : Int)) := h5
  refine T_if 13 9 rfl rfl rfl (r32 (by omega) (by omega)) (fun (h6 : x3 = 0) => ?_) (fun (h6 : ¬ (x3 = 0)) => ?_)
  · skip
    refine T_ld 14 (.int (i32 1)) rfl (fun _ => rfl) ?_
    refine T_pf (l' := [(1, 1)]) 17 1 rfl rfl rfl rfl rfl rfl ?_
    refine T_gf 21 (.int (i32 1)) rfl rfl rfl rfl rfl rfl ?_
    refine T_if 25 24 rfl rfl rfl ⟨by decide, by decide⟩ (fun h7 => absurd (show (1 : Int) ≤ 0 from h7) (by decide)) (fun _ => ?_)
    refine T_ret rfl (fun _ => rfl) ?_
    exact ⟨(mO m [(1, 1)] []), (Ty_mO hT rfl rfl ⟨⟨(by omega : (0 : Int) ≤ 1), (by omega : (1 : Int) ≤ 3)⟩, trivial⟩ trivial), (fr_m fr_0 rfl rfl), (show ((i < 0 ∨ 3 < i) ∧ (1 : Int) = 1) ∨ (0 ≤ i ∧ i ≤ 3 ∧ (1 : Int) = 0) by omega), rfl⟩
  · skip
    refine T_ld 10 (.int (i32 0)) rfl (fun _ => rfl) ?_
    refine T_goto 14 rfl (fun _ => rfl) ?_
    refine T_pf (l' := [(1, 0)]) 17 0 rfl rfl rfl rfl rfl rfl ?_
    refine T_gf 21 (.int (i32 0)) rfl rfl rfl rfl rfl rfl ?_
    refine T_if 25 24 rfl rfl rfl ⟨by decide, by decide⟩ (fun _ => ?_) (fun h8 => absurd (show (0 : Int) ≤ 0 by decide) h8)
    refine T_gf 29 (.ref 299) rfl rfl rfl rfl rfl rfl ?_
    refine T_ld 30 (.int (i32 i)) rfl (fun _ => rfl) ?_
    refine T_ld 31 (.long (i64 v)) rfl (fun _ => rfl) ?_
    have G9 : ∀ j, (-9223372036854775808) ≤ (upI (m.2 145) i v) j ∧ (upI (m.2 145) i v) j ≤ 9223372036854775807 := upI_rg (hT.2.1 145) ⟨by omega, by omega⟩
    refine T_last (a' := [(145, upI (m.2 145) i v)]) 32 145 (m.2 145) rfl rfl rfl (by omega) (show i < (4 : Int) by omega) rfl rfl ?_
    refine T_gf 36 (.ref 300) rfl rfl rfl rfl rfl rfl ?_
    refine T_ld 37 (.int (i32 i)) rfl (fun _ => rfl) ?_
    refine T_ld 39 (.long (i64 u)) rfl (fun _ => rfl) ?_
    have G10 : ∀ j, (-9223372036854775808) ≤ (upI (m.2 146) i u) j ∧ (upI (m.2 146) i u) j ≤ 9223372036854775807 := upI_rg (hT.2.1 146) ⟨by omega, by omega⟩
    refine T_last (a' := [(145, upI (m.2 145) i v), (146, upI (m.2 146) i u)]) 40 146 (m.2 146) rfl rfl rfl (by omega) (show i < (4 : Int) by omega) rfl rfl ?_
    refine T_ret rfl (fun _ => rfl) ?_
    exact ⟨(mO m [(1, 0)] [(145, upI (m.2 145) i v), (146, upI (m.2 146) i u)]), (Ty_mO hT rfl rfl ⟨⟨(by omega : (0 : Int) ≤ 0), (by omega : (0 : Int) ≤ 3)⟩, trivial⟩ ⟨G9, G10, trivial⟩), (fr_m fr_0 rfl rfl), (show ((i < 0 ∨ 3 < i) ∧ (0 : Int) = 1) ∨ (0 ≤ i ∧ i ≤ 3 ∧ (0 : Int) = 0) by omega), rfl⟩
def fF_datum2 : List Nat := [1]
def fA_datum2 : List Nat := [147]
def Q_datum2 (m : mR) (c : Nat → Option am_C) (N : Nat) (i : Int) (v : Int) : ag_Re af_T → Prop := fun R => ∃ (M : mR), Ty M ∧ fr fF_datum2 fA_datum2 m M ∧ (((i < 0 ∨ 3 < i) ∧ (M.1 1) = 1) ∨ (0 ≤ i ∧ i ≤ 3 ∧ (M.1 1) = 0)) ∧ R = (.inl (none), (mhp M c, N), 0, 0)
set_option maxHeartbeats 3000000 in
theorem c_datum2 (w : wX) (m : mR) (c : Nat → Option am_C) (N D : Nat) (hD : 2 ≤ D) (hT : Ty m) (i : Int) (v : Int) (qi : R32 i) (qv : R64 v) : TC w D 310 [.ref 189, .int (i32 i), .long (i64 v)] (mhp m c, N) (Q_datum2 m c N i v) := by
  obtain ⟨D, rfl⟩ : ∃ k, D = k + 1 := ⟨D - 1, by omega⟩
  obtain ⟨qia, qib⟩ := id qi
  obtain ⟨qva, qvb⟩ := id qv
  have f1 : 0 ≤ m.1 1 ∧ m.1 1 ≤ 3 := hT.1 1
  refine Tc_of rfl ?_
  show TT w D pm_310 (0, [(0, .ref 189), (1, .int (i32 i)), (2, .long (i64 v))], [], (mhp (mO m [] []) c, N), 0, 0) (Q_datum2 m c N i v)
  refine T_ld 1 (.ref 189) rfl (fun _ => rfl) ?_
  refine T_ld 2 (.int (i32 i)) rfl (fun _ => rfl) ?_
  refine T_ld 3 (.int (i32 4)) rfl (fun _ => rfl) ?_
  refine T_call 6 305 [.int (i32 i), .int (i32 4)] [.ref 189] rfl (fun _ => rfl) rfl (c_in w (mO m [] []) c N D (by omega) hT i 4 (r32 (by omega) (by omega)) ⟨by decide, by decide⟩) (fun rr1 k2 => ?_)
  obtain ⟨x3, g4, h5, rfl⟩ := k2
  refine ⟨_, _, rfl, ?_⟩
  refine T_ns (st' := [.int (i32 x3), .ref 189]) rfl ?_
  obtain ⟨g4a, g4b⟩ := g4
  replace h5 : x3 = 1 ↔ (0 ≤ i ∧ i < (4 : Int)) := h5
  refine T_if 13 9 rfl rfl rfl (r32 (by omega) (by omega)) (fun (h6 : x3 = 0) => ?_) (fun (h6 : ¬ (x3 = 0)) => ?_)
  · skip
    refine T_ld 14 (.int (i32 1)) rfl (fun _ => rfl) ?_
    refine T_pf (l' := [(1, 1)]) 17 1 rfl rfl rfl rfl rfl rfl ?_
    refine T_gf 21 (.int (i32 1)) rfl rfl rfl rfl rfl rfl ?_
    refine T_if 31 24 rfl rfl rfl ⟨by decide, by decide⟩ (fun _ => ?_) (fun h7 => absurd (show (1 : Int) ≠ 0 by decide) h7)
    refine T_ret rfl (fun _ => rfl) ?_
    exact ⟨(mO m [(1, 1)] []), (Ty_mO hT rfl rfl ⟨⟨(by omega : (0 : Int) ≤ 1), (by omega : (1 : Int) ≤ 3)⟩, trivial⟩ trivial), (fr_m fr_0 rfl rfl), (show ((i < 0 ∨ 3 < i) ∧ (1 : Int) = 1) ∨ (0 ≤ i ∧ i ≤ 3 ∧ (1 : Int) = 0) by omega), rfl⟩
  · skip
    refine T_ld 10 (.int (i32 0)) rfl (fun _ => rfl) ?_
    refine T_goto 14 rfl (fun _ => rfl) ?_
    refine T_pf (l' := [(1, 0)]) 17 0 rfl rfl rfl rfl rfl rfl ?_
    refine T_gf 21 (.int (i32 0)) rfl rfl rfl rfl rfl rfl ?_
    refine T_if 31 24 rfl rfl rfl ⟨by decide, by decide⟩ (fun h8 => absurd (show (0 : Int) ≠ 0 from h8) (by decide)) (fun _ => ?_)
    refine T_gf 28 (.ref 301) rfl rfl rfl rfl rfl rfl ?_
    refine T_ld 29 (.int (i32 i)) rfl (fun _ => rfl) ?_
    refine T_ld 30 (.long (i64 v)) rfl (fun _ => rfl) ?_
    have G9 : ∀ j, (-9223372036854775808) ≤ (upI (m.2 147) i v) j ∧ (upI (m.2 147) i v) j ≤ 9223372036854775807 := upI_rg (hT.2.1 147) ⟨by omega, by omega⟩
    refine T_last (a' := [(147, upI (m.2 147) i v)]) 31 147 (m.2 147) rfl rfl rfl (by omega) (show i < (4 : Int) by omega) rfl rfl ?_
    refine T_ret rfl (fun _ => rfl) ?_
    exact ⟨(mO m [(1, 0)] [(147, upI (m.2 147) i v)]), (Ty_mO hT rfl rfl ⟨⟨(by omega : (0 : Int) ≤ 0), (by omega : (0 : Int) ≤ 3)⟩, trivial⟩ ⟨G9, trivial⟩), (fr_m fr_0 rfl rfl), (show ((i < 0 ∨ 3 < i) ∧ (0 : Int) = 1) ∨ (0 ≤ i ∧ i ≤ 3 ∧ (0 : Int) = 0) by omega), rfl⟩
def Q_thrown2 (m : mR) (c : Nat → Option am_C) (N : Nat) : ag_Re af_T → Prop := fun R => ∃ (r : Int), ((-2147483648) ≤ r ∧ r ≤ 2147483647) ∧ (r = (m.1 1)) ∧ R = (.inl (some (.int (i32 r))), (mhp m c, N), 0, 0)
set_option maxHeartbeats 3000000 in
theorem c_thrown2 (w : wX) (m : mR) (c : Nat → Option am_C) (N D : Nat) (hD : 1 ≤ D) (hT : Ty m) : TC w D 207 [.ref 189] (mhp m c, N) (Q_thrown2 m c N) := by
  obtain ⟨D, rfl⟩ : ∃ k, D = k + 1 := ⟨D - 1, by omega⟩
  have f1 : 0 ≤ m.1 1 ∧ m.1 1 ≤ 3 := hT.1 1
  refine Tc_of rfl ?_
  show TT w D pm_207 (0, [(0, .ref 189)], [], (mhp (mO m [] []) c, N), 0, 0) (Q_thrown2 m c N)
  refine T_gf 4 (.int (i32 (m.1 1))) rfl rfl rfl rfl rfl rfl ?_
  refine T_ret rfl (fun _ => rfl) ?_
  exact ⟨(m.1 1), ⟨by omega, by omega⟩, (show (m.1 1) = (m.1 1) by omega), rfl⟩
