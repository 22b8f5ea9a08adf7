def fF_fill_op_slots : List Nat := []
def fA_fill_op_slots : List Nat := [101]
def Q_fill_op_slots (m : mR) (c : Nat → Option am_C) (N : Nat) (v : Int) (a : Int) : ag_Re af_T → Prop := fun R => (∃ (M : mR), KTy M ∧ fr fF_fill_op_slots fA_fill_op_slots m M ∧ R = (.inl (none), (khp M c, N), 0, 0))
set_option maxHeartbeats 3000000 in
theorem c_fill_op_slots (w : wX) (m : mR) (c : Nat → Option am_C) (N D : Nat) (hD : 1 ≤ D) (hT : KTy m) (v : Int) (a : Int) (qv : R64 v) (qa : R32 a) (pOKa : OKr m a) : TC w D 46 [.ref (obq (m.2 107) a + (1 + 1)), .long (i64 v)] (khp m c, N) (Q_fill_op_slots m c N v a) := by
  obtain ⟨D, rfl⟩ : ∃ k, D = k + 1 := ⟨D - 1, by omega⟩
  obtain ⟨qva, qvb⟩ := id qv
  obtain ⟨qaa, qab⟩ := id qa
  refine Tc_of rfl ?_
  rw [show (khp m c, N) = (khp (mO m [] []) c, N) from by rw [mO_nil m]]
  show TT w D pm_46 (0, [(0, .ref (obq (m.2 107) a + (1 + 1))), (1, .long (i64 v))], [], (khp (mO m [] []) c, N), 0, 0) (Q_fill_op_slots m c N v a)
  refine T_ld 1 (.int (i32 0)) rfl (fun _ => rfl) ?_
  refine T_sto 2 [(3, .int (i32 0)), (0, .ref (obq (m.2 107) a + (1 + 1))), (1, .long (i64 v))] rfl (fun _ => rfl) ?_
  refine T_ld 3 (.ref (obq (m.2 107) a + (1 + 1))) rfl (fun _ => rfl) ?_
  refine K_aleno 4 1 (L := 221) rfl rfl pOKa rfl rfl rfl ?_
  refine T_sto 6 [(4, .int (i32 221)), (3, .int (i32 0)), (0, .ref (obq (m.2 107) a + (1 + 1))), (1, .long (i64 v))] rfl (fun _ => rfl) ?_
  have L6_3 : ∀ (n9 : Nat) (v1 : Int) (m2 : mR), (R32 v1) → KTy m2 → fr [] [101] (mO m [] []) m2 → (0 ≤ v1) → (v1 ≤ 221) → 221 - v1 < (n9 : Int) → TT w D pm_46 (6, [(0, .ref (obq (m.2 107) a + (1 + 1))), (1, .long (i64 v)), (3, .int (i32 v1)), (4, .int (i32 221))], [], (khp (mO m2 [] []) c, N), 0, 0) (Q_fill_op_slots m c N v a) := by
    intro n9
    induction n9 with
    | zero =>
      intro v1 m2 q6 Tm2 Fm2 ic4 ic5 hmu
      obtain ⟨q6a, q6b⟩ := id q6
      exfalso
      omega
    | succ n9 ih =>
      intro v1 m2 q6 Tm2 Fm2 ic4 ic5 hmu
      obtain ⟨q6a, q6b⟩ := id q6
      have ih10 := ih
      refine T_ld 7 (.int (i32 v1)) rfl (fun _ => rfl) ?_
      refine T_ld 9 (.int (i32 221)) rfl (fun _ => rfl) ?_
      refine T_icmp 22 12 rfl rfl rfl (r32 (by omega) (by omega)) ⟨by decide, by decide⟩ (fun (h11 : (221 : Int) ≤ v1) => ?_) (fun (h11 : ¬ ((221 : Int) ≤ v1)) => ?_)
      · skip
        refine T_ret rfl (fun _ => rfl) ?_
        exact ⟨(mO m2 [] []), Tm2, (fr_m (fr_s Fm2 (fr_m fr_0 rfl rfl) rfl rfl) rfl rfl), rfl⟩
      · skip
        refine T_ld 13 (.ref (obq (m.2 107) a + (1 + 1))) rfl (fun _ => rfl) ?_
        refine T_ld 14 (.int (i32 v1)) rfl (fun _ => rfl) ?_
        refine T_ld 15 (.long (i64 v)) rfl (fun _ => rfl) ?_
        have G12 : ∀ j, (-9223372036854775808) ≤ (upI (m2.2 101) (65536 * a + v1) v) j ∧ (upI (m2.2 101) (65536 * a + v1) v) j ≤ 9223372036854775807 := upI_rg (Tm2.2.1 101) ⟨by omega, by omega⟩
        refine K_lasto (a' := [(101, upI (m2.2 101) (65536 * a + v1) v)]) 16 1 (m2.2 101) rfl rfl rfl (OKr_c (show (m2.2 107) = (m.2 107) from (fr2 Fm2 107 rfl)) (show (m2.2 108) = (m.2 108) from (fr2 Fm2 108 rfl)) pOKa) (show KTy (mO m2 [] []) from Tm2).2.2.1 (congrArg (fun f : Int → Int => (f a).toNat) (show (m2.2 107) = (m.2 107) from (fr2 Fm2 107 rfl))) (by omega) (show v1 < (221 : Int) by omega) rfl rfl ?_
        refine T_iinc 19 [(3, .int (i32 (v1 + 1))), (0, .ref (obq (m.2 107) a + (1 + 1))), (1, .long (i64 v)), (4, .int (i32 221))] rfl rfl (by decide) rfl rfl ?_
        refine T_goto 6 rfl (fun _ => rfl) ?_
        refine Tm_lv (a := [(0, .ref (obq (m.2 107) a + (1 + 1))), (1, .long (i64 v)), (3, .int (i32 (v1 + 1))), (4, .int (i32 221))]) rfl rfl ⟨rfl, rfl, rfl, rfl, trivial⟩ ?_
        exact ih10 (v1 + 1) (mO m2 [] [(101, upI (m2.2 101) (65536 * a + v1) v)]) (r32 (by omega) (by omega)) (KTy_mO Tm2 rfl rfl trivial ⟨G12, trivial⟩) (fr_m (fr_s Fm2 (fr_m fr_0 rfl rfl) rfl rfl) rfl rfl) (show 0 ≤ (v1 + 1) by omega) (show (v1 + 1) ≤ 221 by omega) (show 221 - (v1 + 1) < (n9 : Int) by omega)
  refine Tm_lv (a := [(0, .ref (obq (m.2 107) a + (1 + 1))), (1, .long (i64 v)), (3, .int (i32 0)), (4, .int (i32 221))]) rfl rfl ⟨rfl, rfl, rfl, rfl, trivial⟩ ?_
  exact L6_3 ((221 - (0 : Int) : Int) + 1).toNat 0 (mO m [] []) ⟨by decide, by decide⟩ hT (fr_m fr_0 rfl rfl) (show 0 ≤ (0 : Int) by omega) (show (0 : Int) ≤ 221 by omega) (show 221 - (0 : Int) < ((((221 - (0 : Int) : Int) + 1).toNat : Nat) : Int) by omega)
def fF_fill_op_did : List Nat := []
def fA_fill_op_did : List Nat := [102]
def Q_fill_op_did (m : mR) (c : Nat → Option am_C) (N : Nat) (v : Int) (a : Int) : ag_Re af_T → Prop := fun R => (∃ (M : mR), KTy M ∧ fr fF_fill_op_did fA_fill_op_did m M ∧ R = (.inl (none), (khp M c, N), 0, 0))
set_option maxHeartbeats 3000000 in
theorem c_fill_op_did (w : wX) (m : mR) (c : Nat → Option am_C) (N D : Nat) (hD : 1 ≤ D) (hT : KTy m) (v : Int) (a : Int) (qv : R32 v) (qa : R32 a) (pOKa : OKr m a) : TC w D 25 [.ref (obq (m.2 107) a + (2 + 1)), .int (i32 v)] (khp m c, N) (Q_fill_op_did m c N v a) := by
  obtain ⟨D, rfl⟩ : ∃ k, D = k + 1 := ⟨D - 1, by omega⟩
  obtain ⟨qva, qvb⟩ := id qv
  obtain ⟨qaa, qab⟩ := id qa
  refine Tc_of rfl ?_
  rw [show (khp m c, N) = (khp (mO m [] []) c, N) from by rw [mO_nil m]]
  show TT w D pm_25 (0, [(0, .ref (obq (m.2 107) a + (2 + 1))), (1, .int (i32 v))], [], (khp (mO m [] []) c, N), 0, 0) (Q_fill_op_did m c N v a)
  refine T_ld 1 (.int (i32 0)) rfl (fun _ => rfl) ?_
  refine T_sto 2 [(2, .int (i32 0)), (0, .ref (obq (m.2 107) a + (2 + 1))), (1, .int (i32 v))] rfl (fun _ => rfl) ?_
  refine T_ld 3 (.ref (obq (m.2 107) a + (2 + 1))) rfl (fun _ => rfl) ?_
  refine K_aleno 4 2 (L := 48) rfl rfl pOKa rfl rfl rfl ?_
  refine T_sto 5 [(3, .int (i32 48)), (2, .int (i32 0)), (0, .ref (obq (m.2 107) a + (2 + 1))), (1, .int (i32 v))] rfl (fun _ => rfl) ?_
  have L5_3 : ∀ (n9 : Nat) (v1 : Int) (m2 : mR), (R32 v1) → KTy m2 → fr [] [102] (mO m [] []) m2 → (0 ≤ v1) → (v1 ≤ 48) → 48 - v1 < (n9 : Int) → TT w D pm_25 (5, [(0, .ref (obq (m.2 107) a + (2 + 1))), (1, .int (i32 v)), (2, .int (i32 v1)), (3, .int (i32 48))], [], (khp (mO m2 [] []) c, N), 0, 0) (Q_fill_op_did m c N v a) := by
    intro n9
    induction n9 with
    | zero =>
      intro v1 m2 q6 Tm2 Fm2 ic4 ic5 hmu
      obtain ⟨q6a, q6b⟩ := id q6
      exfalso
      omega
    | succ n9 ih =>
      intro v1 m2 q6 Tm2 Fm2 ic4 ic5 hmu
      obtain ⟨q6a, q6b⟩ := id q6
      have ih10 := ih
      refine T_ld 6 (.int (i32 v1)) rfl (fun _ => rfl) ?_
      refine T_ld 7 (.int (i32 48)) rfl (fun _ => rfl) ?_
      refine T_icmp 20 10 rfl rfl rfl (r32 (by omega) (by omega)) ⟨by decide, by decide⟩ (fun (h11 : (48 : Int) ≤ v1) => ?_) (fun (h11 : ¬ ((48 : Int) ≤ v1)) => ?_)
      · skip
        refine T_ret rfl (fun _ => rfl) ?_
        exact ⟨(mO m2 [] []), Tm2, (fr_m (fr_s Fm2 (fr_m fr_0 rfl rfl) rfl rfl) rfl rfl), rfl⟩
      · skip
        refine T_ld 11 (.ref (obq (m.2 107) a + (2 + 1))) rfl (fun _ => rfl) ?_
        refine T_ld 12 (.int (i32 v1)) rfl (fun _ => rfl) ?_
        refine T_ld 13 (.int (i32 v)) rfl (fun _ => rfl) ?_
        have G12 : ∀ j, (-2147483648) ≤ (upI (m2.2 102) (65536 * a + v1) v) j ∧ (upI (m2.2 102) (65536 * a + v1) v) j ≤ 2147483647 := upI_rg (Tm2.2.1 102) ⟨by omega, by omega⟩
        refine K_iasto (a' := [(102, upI (m2.2 102) (65536 * a + v1) v)]) 14 2 (m2.2 102) rfl rfl rfl (OKr_c (show (m2.2 107) = (m.2 107) from (fr2 Fm2 107 rfl)) (show (m2.2 108) = (m.2 108) from (fr2 Fm2 108 rfl)) pOKa) (show KTy (mO m2 [] []) from Tm2).2.2.1 (congrArg (fun f : Int → Int => (f a).toNat) (show (m2.2 107) = (m.2 107) from (fr2 Fm2 107 rfl))) (by omega) (show v1 < (48 : Int) by omega) rfl rfl ?_
        refine T_iinc 17 [(2, .int (i32 (v1 + 1))), (0, .ref (obq (m.2 107) a + (2 + 1))), (1, .int (i32 v)), (3, .int (i32 48))] rfl rfl (by decide) rfl rfl ?_
        refine T_goto 5 rfl (fun _ => rfl) ?_
        refine Tm_lv (a := [(0, .ref (obq (m.2 107) a + (2 + 1))), (1, .int (i32 v)), (2, .int (i32 (v1 + 1))), (3, .int (i32 48))]) rfl rfl ⟨rfl, rfl, rfl, rfl, trivial⟩ ?_
        exact ih10 (v1 + 1) (mO m2 [] [(102, upI (m2.2 102) (65536 * a + v1) v)]) (r32 (by omega) (by omega)) (KTy_mO Tm2 rfl rfl trivial ⟨G12, trivial⟩) (fr_m (fr_s Fm2 (fr_m fr_0 rfl rfl) rfl rfl) rfl rfl) (show 0 ≤ (v1 + 1) by omega) (show (v1 + 1) ≤ 48 by omega) (show 48 - (v1 + 1) < (n9 : Int) by omega)
  refine Tm_lv (a := [(0, .ref (obq (m.2 107) a + (2 + 1))), (1, .int (i32 v)), (2, .int (i32 0)), (3, .int (i32 48))]) rfl rfl ⟨rfl, rfl, rfl, rfl, trivial⟩ ?_
  exact L5_3 ((48 - (0 : Int) : Int) + 1).toNat 0 (mO m [] []) ⟨by decide, by decide⟩ hT (fr_m fr_0 rfl rfl) (show 0 ≤ (0 : Int) by omega) (show (0 : Int) ≤ 48 by omega) (show 48 - (0 : Int) < ((((48 - (0 : Int) : Int) + 1).toNat : Nat) : Int) by omega)
def fF_op_becomePacket : List Nat := []
def fA_op_becomePacket : List Nat := [91, 92, 93, 100]
def Q_op_becomePacket (m : mR) (c : Nat → Option am_C) (N : Nat) (u : Int) (n : Int) (y : Int) : ag_Re af_T → Prop := fun R => (∃ (M : mR), KTy M ∧ fr fF_op_becomePacket fA_op_becomePacket m M ∧ ((M.2 91) = upI (m.2 91) u 0 ∧ (M.2 92) = upI (m.2 92) u n) ∧ ((M.2 93) = upI (m.2 93) u y ∧ (M.2 100) = cpI (m.2 1) (m.2 100) ((0 : Int) + 0) (65536 * u + 0) n) ∧ R = (.inl (none), (khp M c, N), 0, 0))
set_option maxHeartbeats 3000000 in
theorem c_op_becomePacket (w : wX) (m : mR) (c : Nat → Option am_C) (N D : Nat) (hD : 1 ≤ D) (hT : KTy m) (u : Int) (n : Int) (y : Int) (qu : R32 u) (qn : R32 n) (qy : R32 y) (pOKu : OKr m u) (p1 : 0 ≤ n ∧ n ≤ 128) : TC w D 165 [.ref (obq (m.2 107) u), .ref 2, .int (i32 n), .int (i32 y)] (khp m c, N) (Q_op_becomePacket m c N u n y) := by
  obtain ⟨D, rfl⟩ : ∃ k, D = k + 1 := ⟨D - 1, by omega⟩
  obtain ⟨qua, qub⟩ := id qu
  obtain ⟨qna, qnb⟩ := id qn
  obtain ⟨qya, qyb⟩ := id qy
  refine Tc_of rfl ?_
  rw [show (khp m c, N) = (khp (mO m [] []) c, N) from by rw [mO_nil m]]
  show TT w D pm_165 (0, [(0, .ref (obq (m.2 107) u)), (1, .ref 2), (2, .int (i32 n)), (3, .int (i32 y))], [], (khp (mO m [] []) c, N), 0, 0) (Q_op_becomePacket m c N u n y)
  refine T_ld 1 (.ref (obq (m.2 107) u)) rfl (fun _ => rfl) ?_
  refine T_ld 2 (.int (i32 0)) rfl (fun _ => rfl) ?_
  have G1 : ∀ j, 0 ≤ (upI (m.2 91) u 0) j ∧ (upI (m.2 91) u 0) j ≤ 3 := upI_rg (hT.2.1 91) ⟨by omega, by omega⟩
  refine K_poi (a' := [(91, upI (m.2 91) u 0)]) 5 91 (m.2 91) rfl rfl rfl pOKu (show KTy (mO m [] []) from hT).2.2.1 rfl rfl rfl rfl ?_
  refine T_ld 6 (.ref 2) rfl (fun _ => rfl) ?_
  refine T_ld 7 (.int (i32 0)) rfl (fun _ => rfl) ?_
  refine T_ld 8 (.ref (obq (m.2 107) u)) rfl (fun _ => rfl) ?_
  refine K_gor 11 rfl rfl pOKu rfl rfl ?_
  refine T_ld 12 (.int (i32 0)) rfl (fun _ => rfl) ?_
  refine T_ld 13 (.int (i32 n)) rfl (fun _ => rfl) ?_
  obtain ⟨F2, h3, h4⟩ := src_fb (c := c) (mO m [] [(91, upI (m.2 91) u 0)]) (k := 1) (q := 2) (n0 := 4000) (sp := 0) rfl (by decide +kernel) (by omega)
  have G5 : ∀ j, (-128) ≤ (cpI (m.2 1) (m.2 100) ((0 : Int) + 0) (65536 * u + 0) n) j ∧ (cpI (m.2 1) (m.2 100) ((0 : Int) + 0) (65536 * u + 0) n) j ≤ 127 := cpI_rg (hT.2.1 1) (hT.2.1 100)
  refine K_cpb (a' := [(91, upI (m.2 91) u 0), (100, cpI (m.2 1) (m.2 100) ((0 : Int) + 0) (65536 * u + 0) n)]) 16 0 (m.2 1) (m.2 100) (0 : Int) (sp := 0) (dp := 0) (n := n) rfl rfl rfl rfl h3 (fun j hj => h4 j) (hT.2.1 1) pOKu (show KTy (mO m [] [(91, upI (m.2 91) u 0)]) from (KTy_mO hT rfl rfl trivial ⟨G1, trivial⟩)).2.2.1 rfl (by omega) (by omega) (by omega) (show 0 + n ≤ ((4000 : Nat) : Int) by omega) (show 0 + n ≤ (896 : Int) by omega) (by decide) rfl rfl ?_
  refine T_ld 17 (.ref (obq (m.2 107) u)) rfl (fun _ => rfl) ?_
  refine T_ld 18 (.int (i32 n)) rfl (fun _ => rfl) ?_
  have G6 : ∀ j, 0 ≤ (upI (m.2 92) u n) j ∧ (upI (m.2 92) u n) j ≤ 896 := upI_rg (hT.2.1 92) ⟨by omega, by omega⟩
  refine K_poi (a' := [(91, upI (m.2 91) u 0), (92, upI (m.2 92) u n), (100, cpI (m.2 1) (m.2 100) ((0 : Int) + 0) (65536 * u + 0) n)]) 21 92 (m.2 92) rfl rfl rfl pOKu (show KTy (mO m [] [(91, upI (m.2 91) u 0), (100, cpI (m.2 1) (m.2 100) ((0 : Int) + 0) (65536 * u + 0) n)]) from (KTy_mO hT rfl rfl trivial ⟨G1, G5, trivial⟩)).2.2.1 rfl rfl rfl rfl ?_
  refine T_ld 22 (.ref (obq (m.2 107) u)) rfl (fun _ => rfl) ?_
  refine T_ld 23 (.int (i32 y)) rfl (fun _ => rfl) ?_
  have G7 : ∀ j, (-2147483648) ≤ (upI (m.2 93) u y) j ∧ (upI (m.2 93) u y) j ≤ 2147483647 := upI_rg (hT.2.1 93) ⟨by omega, by omega⟩
  refine K_poi (a' := [(91, upI (m.2 91) u 0), (92, upI (m.2 92) u n), (93, upI (m.2 93) u y), (100, cpI (m.2 1) (m.2 100) ((0 : Int) + 0) (65536 * u + 0) n)]) 26 93 (m.2 93) rfl rfl rfl pOKu (show KTy (mO m [] [(91, upI (m.2 91) u 0), (92, upI (m.2 92) u n), (100, cpI (m.2 1) (m.2 100) ((0 : Int) + 0) (65536 * u + 0) n)]) from (KTy_mO hT rfl rfl trivial ⟨G1, G6, G5, trivial⟩)).2.2.1 rfl rfl rfl rfl ?_
  refine T_ret rfl (fun _ => rfl) ?_
  exact ⟨(mO m [] [(91, upI (m.2 91) u 0), (92, upI (m.2 92) u n), (93, upI (m.2 93) u y), (100, cpI (m.2 1) (m.2 100) ((0 : Int) + 0) (65536 * u + 0) n)]), (KTy_mO hT rfl rfl trivial ⟨G1, G6, G7, G5, trivial⟩), (fr_m fr_0 rfl rfl), (show (upI (m.2 91) u 0) = upI (m.2 91) u 0 ∧ (upI (m.2 92) u n) = upI (m.2 92) u n by first | (exact ⟨rfl, rfl⟩) | (exfalso; omega)), (show (upI (m.2 93) u y) = upI (m.2 93) u y ∧ (cpI (m.2 1) (m.2 100) ((0 : Int) + 0) (65536 * u + 0) n) = cpI (m.2 1) (m.2 100) ((0 : Int) + 0) (65536 * u + 0) n by first | (exact ⟨rfl, rfl⟩) | (exfalso; omega)), rfl⟩
def fF_op_becomeEntry : List Nat := []
def fA_op_becomeEntry : List Nat := [91, 95, 96, 97]
def Q_op_becomeEntry (m : mR) (c : Nat → Option am_C) (N : Nat) (u : Int) (k : Int) (t : Int) (y : Int) (x : Int) : ag_Re af_T → Prop := fun R => (∃ (M : mR), KTy M ∧ fr fF_op_becomeEntry fA_op_becomeEntry m M ∧ ((M.2 91) = upI (m.2 91) u k) ∧ ((M.2 95) = upI (m.2 95) u t ∧ (M.2 96) = upI (m.2 96) u y ∧ (M.2 97) = upI (m.2 97) u x) ∧ R = (.inl (none), (khp M c, N), 0, 0))
set_option maxHeartbeats 3000000 in
theorem c_op_becomeEntry (w : wX) (m : mR) (c : Nat → Option am_C) (N D : Nat) (hD : 1 ≤ D) (hT : KTy m) (u : Int) (k : Int) (t : Int) (y : Int) (x : Int) (qu : R32 u) (qk : R32 k) (qt : R32 t) (qy : R32 y) (qx : R32 x) (pOKu : OKr m u) (p1 : 1 ≤ k ∧ k ≤ 3) (p2 : 0 ≤ t ∧ t ≤ 7) : TC w D 173 [.ref (obq (m.2 107) u), .int (i32 k), .int (i32 t), .int (i32 y), .int (i32 x)] (khp m c, N) (Q_op_becomeEntry m c N u k t y x) := by
  obtain ⟨D, rfl⟩ : ∃ k, D = k + 1 := ⟨D - 1, by omega⟩
  obtain ⟨qua, qub⟩ := id qu
  obtain ⟨qka, qkb⟩ := id qk
  obtain ⟨qta, qtb⟩ := id qt
  obtain ⟨qya, qyb⟩ := id qy
  obtain ⟨qxa, qxb⟩ := id qx
  refine Tc_of rfl ?_
  rw [show (khp m c, N) = (khp (mO m [] []) c, N) from by rw [mO_nil m]]
  show TT w D pm_173 (0, [(0, .ref (obq (m.2 107) u)), (1, .int (i32 k)), (2, .int (i32 t)), (3, .int (i32 y)), (4, .int (i32 x))], [], (khp (mO m [] []) c, N), 0, 0) (Q_op_becomeEntry m c N u k t y x)
  refine T_ld 1 (.ref (obq (m.2 107) u)) rfl (fun _ => rfl) ?_
  refine T_ld 2 (.int (i32 k)) rfl (fun _ => rfl) ?_
  have G1 : ∀ j, 0 ≤ (upI (m.2 91) u k) j ∧ (upI (m.2 91) u k) j ≤ 3 := upI_rg (hT.2.1 91) ⟨by omega, by omega⟩
  refine K_poi (a' := [(91, upI (m.2 91) u k)]) 5 91 (m.2 91) rfl rfl rfl pOKu (show KTy (mO m [] []) from hT).2.2.1 rfl rfl rfl rfl ?_
  refine T_ld 6 (.ref (obq (m.2 107) u)) rfl (fun _ => rfl) ?_
  refine T_ld 7 (.int (i32 t)) rfl (fun _ => rfl) ?_
  have G2 : ∀ j, 0 ≤ (upI (m.2 95) u t) j ∧ (upI (m.2 95) u t) j ≤ 7 := upI_rg (hT.2.1 95) ⟨by omega, by omega⟩
  refine K_poi (a' := [(91, upI (m.2 91) u k), (95, upI (m.2 95) u t)]) 10 95 (m.2 95) rfl rfl rfl pOKu (show KTy (mO m [] [(91, upI (m.2 91) u k)]) from (KTy_mO hT rfl rfl trivial ⟨G1, trivial⟩)).2.2.1 rfl rfl rfl rfl ?_
  refine T_ld 11 (.ref (obq (m.2 107) u)) rfl (fun _ => rfl) ?_
  refine T_ld 12 (.int (i32 y)) rfl (fun _ => rfl) ?_
  have G3 : ∀ j, (-2147483648) ≤ (upI (m.2 96) u y) j ∧ (upI (m.2 96) u y) j ≤ 2147483647 := upI_rg (hT.2.1 96) ⟨by omega, by omega⟩
  refine K_poi (a' := [(91, upI (m.2 91) u k), (95, upI (m.2 95) u t), (96, upI (m.2 96) u y)]) 15 96 (m.2 96) rfl rfl rfl pOKu (show KTy (mO m [] [(91, upI (m.2 91) u k), (95, upI (m.2 95) u t)]) from (KTy_mO hT rfl rfl trivial ⟨G1, G2, trivial⟩)).2.2.1 rfl rfl rfl rfl ?_
  refine T_ld 16 (.ref (obq (m.2 107) u)) rfl (fun _ => rfl) ?_
  refine T_ld 18 (.int (i32 x)) rfl (fun _ => rfl) ?_
  have G4 : ∀ j, (-2147483648) ≤ (upI (m.2 97) u x) j ∧ (upI (m.2 97) u x) j ≤ 2147483647 := upI_rg (hT.2.1 97) ⟨by omega, by omega⟩
  refine K_poi (a' := [(91, upI (m.2 91) u k), (95, upI (m.2 95) u t), (96, upI (m.2 96) u y), (97, upI (m.2 97) u x)]) 21 97 (m.2 97) rfl rfl rfl pOKu (show KTy (mO m [] [(91, upI (m.2 91) u k), (95, upI (m.2 95) u t), (96, upI (m.2 96) u y)]) from (KTy_mO hT rfl rfl trivial ⟨G1, G2, G3, trivial⟩)).2.2.1 rfl rfl rfl rfl ?_
  refine T_ret rfl (fun _ => rfl) ?_
  exact ⟨(mO m [] [(91, upI (m.2 91) u k), (95, upI (m.2 95) u t), (96, upI (m.2 96) u y), (97, upI (m.2 97) u x)]), (KTy_mO hT rfl rfl trivial ⟨G1, G2, G3, G4, trivial⟩), (fr_m fr_0 rfl rfl), (show (upI (m.2 91) u k) = upI (m.2 91) u k by rfl), (show (upI (m.2 95) u t) = upI (m.2 95) u t ∧ (upI (m.2 96) u y) = upI (m.2 96) u y ∧ (upI (m.2 97) u x) = upI (m.2 97) u x by first | (exact ⟨rfl, rfl, rfl⟩) | (exfalso; omega)), rfl⟩
def fF_op_holdRows : List Nat := []
def fA_op_holdRows : List Nat := [103, 104, 105]
def Q_op_holdRows (m : mR) (c : Nat → Option am_C) (N : Nat) (u : Int) : ag_Re af_T → Prop := fun R => (∃ (M : mR), KTy M ∧ fr fF_op_holdRows fA_op_holdRows m M ∧ ((M.2 103) = cpI (m.2 2) (m.2 103) ((0 : Int) + 0) (65536 * u + 0) 4 ∧ (M.2 104) = cpI (m.2 3) (m.2 104) ((0 : Int) + 0) (65536 * u + 0) 4 ∧ (M.2 105) = cpI (m.2 4) (m.2 105) ((0 : Int) + 0) (65536 * u + 0) 4) ∧ R = (.inl (none), (khp M c, N), 0, 0))
set_option maxHeartbeats 3000000 in
theorem c_op_holdRows (w : wX) (m : mR) (c : Nat → Option am_C) (N D : Nat) (hD : 1 ≤ D) (hT : KTy m) (u : Int) (qu : R32 u) (pOKu : OKr m u) : TC w D 174 [.ref (obq (m.2 107) u), .ref 3, .ref 4, .ref 5] (khp m c, N) (Q_op_holdRows m c N u) := by
  obtain ⟨D, rfl⟩ : ∃ k, D = k + 1 := ⟨D - 1, by omega⟩
  obtain ⟨qua, qub⟩ := id qu
  refine Tc_of rfl ?_
  rw [show (khp m c, N) = (khp (mO m [] []) c, N) from by rw [mO_nil m]]
  show TT w D pm_174 (0, [(0, .ref (obq (m.2 107) u)), (1, .ref 3), (2, .ref 4), (3, .ref 5)], [], (khp (mO m [] []) c, N), 0, 0) (Q_op_holdRows m c N u)
  refine T_ld 1 (.ref 3) rfl (fun _ => rfl) ?_
  refine T_ld 2 (.int (i32 0)) rfl (fun _ => rfl) ?_
  refine T_ld 3 (.ref (obq (m.2 107) u)) rfl (fun _ => rfl) ?_
  refine K_gor 6 rfl rfl pOKu rfl rfl ?_
  refine T_ld 7 (.int (i32 0)) rfl (fun _ => rfl) ?_
  refine T_ld 8 (.int (i32 4)) rfl (fun _ => rfl) ?_
  obtain ⟨F1, h2, h3⟩ := src_fl (c := c) (mO m [] []) (k := 2) (q := 3) (n0 := 4) (sp := 0) rfl (by decide +kernel) (by omega)
  have G4 : ∀ j, (-9223372036854775808) ≤ (cpI (m.2 2) (m.2 103) ((0 : Int) + 0) (65536 * u + 0) 4) j ∧ (cpI (m.2 2) (m.2 103) ((0 : Int) + 0) (65536 * u + 0) 4) j ≤ 9223372036854775807 := cpI_rg (hT.2.1 2) (hT.2.1 103)
  refine K_cpl (a' := [(103, cpI (m.2 2) (m.2 103) ((0 : Int) + 0) (65536 * u + 0) 4)]) 11 3 (m.2 2) (m.2 103) (0 : Int) (sp := 0) (dp := 0) (n := 4) rfl rfl rfl rfl h2 (fun j hj => h3 j) pOKu (show KTy (mO m [] []) from hT).2.2.1 rfl (by omega) (by omega) (by omega) (show 0 + 4 ≤ ((4 : Nat) : Int) by omega) (show 0 + 4 ≤ (4 : Int) by omega) (by decide) rfl rfl ?_
  refine T_ld 12 (.ref 4) rfl (fun _ => rfl) ?_
  refine T_ld 13 (.int (i32 0)) rfl (fun _ => rfl) ?_
  refine T_ld 14 (.ref (obq (m.2 107) u)) rfl (fun _ => rfl) ?_
  refine K_gor 17 rfl rfl pOKu rfl rfl ?_
  refine T_ld 18 (.int (i32 0)) rfl (fun _ => rfl) ?_
  refine T_ld 19 (.int (i32 4)) rfl (fun _ => rfl) ?_
  obtain ⟨F5, h6, h7⟩ := src_fl (c := c) (mO m [] [(103, cpI (m.2 2) (m.2 103) ((0 : Int) + 0) (65536 * u + 0) 4)]) (k := 3) (q := 4) (n0 := 4) (sp := 0) rfl (by decide +kernel) (by omega)
  have G8 : ∀ j, (-9223372036854775808) ≤ (cpI (m.2 3) (m.2 104) ((0 : Int) + 0) (65536 * u + 0) 4) j ∧ (cpI (m.2 3) (m.2 104) ((0 : Int) + 0) (65536 * u + 0) 4) j ≤ 9223372036854775807 := cpI_rg (hT.2.1 3) (hT.2.1 104)
  refine K_cpl (a' := [(103, cpI (m.2 2) (m.2 103) ((0 : Int) + 0) (65536 * u + 0) 4), (104, cpI (m.2 3) (m.2 104) ((0 : Int) + 0) (65536 * u + 0) 4)]) 22 4 (m.2 3) (m.2 104) (0 : Int) (sp := 0) (dp := 0) (n := 4) rfl rfl rfl rfl h6 (fun j hj => h7 j) pOKu (show KTy (mO m [] [(103, cpI (m.2 2) (m.2 103) ((0 : Int) + 0) (65536 * u + 0) 4)]) from (KTy_mO hT rfl rfl trivial ⟨G4, trivial⟩)).2.2.1 rfl (by omega) (by omega) (by omega) (show 0 + 4 ≤ ((4 : Nat) : Int) by omega) (show 0 + 4 ≤ (4 : Int) by omega) (by decide) rfl rfl ?_
  refine T_ld 23 (.ref 5) rfl (fun _ => rfl) ?_
  refine T_ld 24 (.int (i32 0)) rfl (fun _ => rfl) ?_
  refine T_ld 25 (.ref (obq (m.2 107) u)) rfl (fun _ => rfl) ?_
  refine K_gor 28 rfl rfl pOKu rfl rfl ?_
  refine T_ld 29 (.int (i32 0)) rfl (fun _ => rfl) ?_
  refine T_ld 30 (.int (i32 4)) rfl (fun _ => rfl) ?_
  obtain ⟨F9, h10, h11⟩ := src_fl (c := c) (mO m [] [(103, cpI (m.2 2) (m.2 103) ((0 : Int) + 0) (65536 * u + 0) 4), (104, cpI (m.2 3) (m.2 104) ((0 : Int) + 0) (65536 * u + 0) 4)]) (k := 4) (q := 5) (n0 := 4) (sp := 0) rfl (by decide +kernel) (by omega)
  have G12 : ∀ j, (-9223372036854775808) ≤ (cpI (m.2 4) (m.2 105) ((0 : Int) + 0) (65536 * u + 0) 4) j ∧ (cpI (m.2 4) (m.2 105) ((0 : Int) + 0) (65536 * u + 0) 4) j ≤ 9223372036854775807 := cpI_rg (hT.2.1 4) (hT.2.1 105)
  refine K_cpl (a' := [(103, cpI (m.2 2) (m.2 103) ((0 : Int) + 0) (65536 * u + 0) 4), (104, cpI (m.2 3) (m.2 104) ((0 : Int) + 0) (65536 * u + 0) 4), (105, cpI (m.2 4) (m.2 105) ((0 : Int) + 0) (65536 * u + 0) 4)]) 33 5 (m.2 4) (m.2 105) (0 : Int) (sp := 0) (dp := 0) (n := 4) rfl rfl rfl rfl h10 (fun j hj => h11 j) pOKu (show KTy (mO m [] [(103, cpI (m.2 2) (m.2 103) ((0 : Int) + 0) (65536 * u + 0) 4), (104, cpI (m.2 3) (m.2 104) ((0 : Int) + 0) (65536 * u + 0) 4)]) from (KTy_mO hT rfl rfl trivial ⟨G4, G8, trivial⟩)).2.2.1 rfl (by omega) (by omega) (by omega) (show 0 + 4 ≤ ((4 : Nat) : Int) by omega) (show 0 + 4 ≤ (4 : Int) by omega) (by decide) rfl rfl ?_
  refine T_ret rfl (fun _ => rfl) ?_
  exact ⟨(mO m [] [(103, cpI (m.2 2) (m.2 103) ((0 : Int) + 0) (65536 * u + 0) 4), (104, cpI (m.2 3) (m.2 104) ((0 : Int) + 0) (65536 * u + 0) 4), (105, cpI (m.2 4) (m.2 105) ((0 : Int) + 0) (65536 * u + 0) 4)]), (KTy_mO hT rfl rfl trivial ⟨G4, G8, G12, trivial⟩), (fr_m fr_0 rfl rfl), (show (cpI (m.2 2) (m.2 103) ((0 : Int) + 0) (65536 * u + 0) 4) = cpI (m.2 2) (m.2 103) ((0 : Int) + 0) (65536 * u + 0) 4 ∧ (cpI (m.2 3) (m.2 104) ((0 : Int) + 0) (65536 * u + 0) 4) = cpI (m.2 3) (m.2 104) ((0 : Int) + 0) (65536 * u + 0) 4 ∧ (cpI (m.2 4) (m.2 105) ((0 : Int) + 0) (65536 * u + 0) 4) = cpI (m.2 4) (m.2 105) ((0 : Int) + 0) (65536 * u + 0) 4 by first | (exact ⟨rfl, rfl, rfl⟩) | (exfalso; omega)), rfl⟩
def Q_op_isSent (m : mR) (c : Nat → Option am_C) (N : Nat) (u : Int) : ag_Re af_T → Prop := fun R => (∃ (r : Int), (0 ≤ r ∧ r ≤ 1) ∧ (r = 1 → (m.2 91) u = 0) ∧ R = (.inl (some (.int (i32 r))), (khp m c, N), 0, 0))
set_option maxHeartbeats 3000000 in
theorem c_op_isSent (w : wX) (m : mR) (c : Nat → Option am_C) (N D : Nat) (hD : 1 ≤ D) (hT : KTy m) (u : Int) (qu : R32 u) (pOKu : OKr m u) : TC w D 36 [.ref (obq (m.2 107) u)] (khp m c, N) (Q_op_isSent m c N u) := by
  obtain ⟨D, rfl⟩ : ∃ k, D = k + 1 := ⟨D - 1, by omega⟩
  obtain ⟨qua, qub⟩ := id qu
  refine Tc_of rfl ?_
  rw [show (khp m c, N) = (khp (mO m [] []) c, N) from by rw [mO_nil m]]
  show TT w D pm_36 (0, [(0, .ref (obq (m.2 107) u))], [], (khp (mO m [] []) c, N), 0, 0) (Q_op_isSent m c N u)
  refine T_ld 1 (.ref (obq (m.2 107) u)) rfl (fun _ => rfl) ?_
  refine K_goi 4 91 (m.2 91) rfl rfl pOKu rfl rfl rfl ?_
  have e1 : 0 ≤ m.2 91 u ∧ m.2 91 u ≤ 3 := hT.2.1 91 u
  refine T_if 18 7 rfl rfl rfl (r32 (by omega) (by omega)) (fun (h2 : (m.2 91) u ≠ 0) => ?_) (fun (h2 : ¬ ((m.2 91) u ≠ 0)) => ?_)
  · skip
    refine T_ld 19 (.int (i32 0)) rfl (fun _ => rfl) ?_
    refine T_ret rfl (fun _ => rfl) ?_
    exact ⟨0, ⟨by omega, by omega⟩, (show (0 : Int) = 1 → (m.2 91) u = 0 by omega), rfl⟩
  · skip
    refine T_ld 8 (.ref (obq (m.2 107) u)) rfl (fun _ => rfl) ?_
    refine K_goi 11 98 (m.2 98) rfl rfl pOKu rfl rfl rfl ?_
    have e3 : 0 ≤ m.2 98 u ∧ m.2 98 u ≤ 2 := hT.2.1 98 u
    refine T_if 18 14 rfl rfl rfl (r32 (by omega) (by omega)) (fun (h4 : (m.2 98) u ≠ 0) => ?_) (fun (h4 : ¬ ((m.2 98) u ≠ 0)) => ?_)
    · skip
      refine T_ld 19 (.int (i32 0)) rfl (fun _ => rfl) ?_
      refine T_ret rfl (fun _ => rfl) ?_
      exact ⟨0, ⟨by omega, by omega⟩, (show (0 : Int) = 1 → (m.2 91) u = 0 by omega), rfl⟩
    · skip
      refine T_ld 15 (.int (i32 1)) rfl (fun _ => rfl) ?_
      refine T_goto 19 rfl (fun _ => rfl) ?_
      refine T_ret rfl (fun _ => rfl) ?_
      exact ⟨1, ⟨by omega, by omega⟩, (show (1 : Int) = 1 → (m.2 91) u = 0 by omega), rfl⟩
def fF_nd_valueOf : List Nat := []
def fA_nd_valueOf : List Nat := [25]
def Q_nd_valueOf (m : mR) (c : Nat → Option am_C) (N : Nat) (a : Int) (b : Int) (s : Int) (d : Int) : ag_Re af_T → Prop := fun R => (∃ (M : mR) (r : Int), KTy M ∧ fr fF_nd_valueOf fA_nd_valueOf m M ∧ ((-9223372036854775808) ≤ r ∧ r ≤ 9223372036854775807) ∧ R = (.inl (some (.long (i64 r))), (khp M c, N), 0, 0))
set_option maxHeartbeats 3000000 in
theorem c_nd_valueOf (w : wX) (m : mR) (c : Nat → Option am_C) (N D : Nat) (hD : 2 ≤ D) (hT : KTy m) (a : Int) (b : Int) (s : Int) (d : Int) (qa : R32 a) (qb : R32 b) (qs : R32 s) (qd : R32 d) (pOKs : OKr m s) (pOKd : OKr m d) (hNK : NKp (m.2 18) (m.2 19)) (p3 : 0 ≤ a ∧ a ≤ 1090) (p4 : 0 ≤ b ∧ b ≤ 1089) : TC w D 183 [.ref 22, .int (i32 a), .int (i32 b), .ref (obq (m.2 107) s + (1 + 1)), .ref (obq (m.2 107) d + (5 + 1))] (khp m c, N) (Q_nd_valueOf m c N a b s d) := by
  obtain ⟨D, rfl⟩ : ∃ k, D = k + 1 := ⟨D - 1, by omega⟩
  obtain ⟨qaa, qab⟩ := id qa
  obtain ⟨qba, qbb⟩ := id qb
  obtain ⟨qsa, qsb⟩ := id qs
  obtain ⟨qda, qdb⟩ := id qd
  refine Tc_of rfl ?_
  rw [show (khp m c, N) = (khp (mO m [] []) c, N) from by rw [mO_nil m]]
  show TT w D pm_183 (0, [(0, .ref 22), (1, .int (i32 a)), (2, .int (i32 b)), (3, .ref (obq (m.2 107) s + (1 + 1))), (4, .ref (obq (m.2 107) d + (5 + 1)))], [], (khp (mO m [] []) c, N), 0, 0) (Q_nd_valueOf m c N a b s d)
  refine T_ld 1 (.int (i32 a)) rfl (fun _ => rfl) ?_
  refine T_sto 3 [(5, .int (i32 a)), (0, .ref 22), (1, .int (i32 a)), (2, .int (i32 b)), (3, .ref (obq (m.2 107) s + (1 + 1))), (4, .ref (obq (m.2 107) d + (5 + 1)))] rfl (fun _ => rfl) ?_
  have L3_3 : ∀ (n10 : Nat) (v1 : Int) (m2 : mR), (R32 v1) → KTy m2 → fr [] [25] (mO m [] []) m2 → (0 ≤ v1) → (v1 ≤ 1090) → (0 ≤ v1 ∧ v1 ≤ 1090) → 1100 - v1 < (n10 : Int) → TT w D pm_183 (3, [(0, .ref 22), (2, .int (i32 b)), (3, .ref (obq (m.2 107) s + (1 + 1))), (4, .ref (obq (m.2 107) d + (5 + 1))), (5, .int (i32 v1))], [], (khp (mO m2 [] []) c, N), 0, 0) (Q_nd_valueOf m c N a b s d) := by
    intro n10
    induction n10 with
    | zero =>
      intro v1 m2 q7 Tm2 Fm2 ic4 ic5 ic6 hmu
      obtain ⟨q7a, q7b⟩ := id q7
      exfalso
      omega
    | succ n10 ih =>
      intro v1 m2 q7 Tm2 Fm2 ic4 ic5 ic6 hmu
      obtain ⟨q7a, q7b⟩ := id q7
      have ih11 := ih
      refine T_ld 5 (.int (i32 v1)) rfl (fun _ => rfl) ?_
      refine T_ld 6 (.int (i32 b)) rfl (fun _ => rfl) ?_
      refine T_icmp 304 9 rfl rfl rfl (r32 (by omega) (by omega)) (r32 (by omega) (by omega)) (fun (h12 : b < v1) => ?_) (fun (h12 : ¬ (b < v1)) => ?_)
      · skip
        refine T_ld 305 (.ref 22) rfl (fun _ => rfl) ?_
        refine K_gf 308 (.ref 30) rfl rfl kd_22 rfl rfl rfl ?_
        refine T_ld 309 (.int (i32 b)) rfl (fun _ => rfl) ?_
        refine K_lald 310 25 (m2.2 25) rfl rfl rfl (by omega) (show b < (1090 : Int) by omega) rfl ?_
        have e13 : (-9223372036854775808) ≤ (m2.2 25) b ∧ (m2.2 25) b ≤ 9223372036854775807 := (Tm2.2.1 25) b
        refine T_ret rfl (fun _ => rfl) ?_
        exact ⟨(mO m2 [] []), (m2.2 25) b, Tm2, (fr_m (fr_s Fm2 (fr_m fr_0 rfl rfl) rfl rfl) rfl rfl), ⟨by omega, by omega⟩, rfl⟩
      · skip
        refine T_ld 10 (.ref 22) rfl (fun _ => rfl) ?_
        refine K_gf 13 (.ref 23) rfl rfl kd_22 rfl rfl rfl ?_
        refine T_ld 15 (.int (i32 v1)) rfl (fun _ => rfl) ?_
        refine K_iald 16 18 (m.2 18) rfl rfl rfl (by omega) (show v1 < (1090 : Int) by omega) (show (m2.2 18) = (m.2 18) from (fr2 Fm2 18 rfl)) ?_
        have e14 : 0 ≤ m.2 18 v1 ∧ m.2 18 v1 ≤ 65535 := hT.2.1 18 v1
        by_cases h15 : (m.2 18) v1 = 257
        · skip
          refine T_cast 257 h15 ?_
          refine T_pop 76 rfl (fun _ => rfl) ?_
          refine T_ld 77 (.ref 22) rfl (fun _ => rfl) ?_
          refine K_gf 80 (.ref 29) rfl rfl kd_22 rfl rfl rfl ?_
          refine T_ld 82 (.int (i32 v1)) rfl (fun _ => rfl) ?_
          refine K_lald 83 24 (m.2 24) rfl rfl rfl (by omega) (show v1 < (1090 : Int) by omega) (show (m2.2 24) = (m.2 24) from (fr2 Fm2 24 rfl)) ?_
          have e16 : (-9223372036854775808) ≤ m.2 24 v1 ∧ m.2 24 v1 ≤ 9223372036854775807 := hT.2.1 24 v1
          refine T_sto 85 [(6, .long (i64 ((m.2 24) v1))), (0, .ref 22), (2, .int (i32 b)), (3, .ref (obq (m.2 107) s + (1 + 1))), (4, .ref (obq (m.2 107) d + (5 + 1))), (5, .int (i32 v1))] rfl (fun _ => rfl) ?_
          refine T_goto 278 rfl (fun _ => rfl) ?_
          refine T_ld 279 (.ref 22) rfl (fun _ => rfl) ?_
          refine K_gf 282 (.ref 30) rfl rfl kd_22 rfl rfl rfl ?_
          refine T_ld 284 (.int (i32 v1)) rfl (fun _ => rfl) ?_
          refine T_ld 286 (.long (i64 ((m.2 24) v1))) rfl (fun _ => rfl) ?_
          refine T_ld 287 (.ref 22) rfl (fun _ => rfl) ?_
          refine K_gf 290 (.ref 27) rfl rfl kd_22 rfl rfl rfl ?_
          refine T_ld 292 (.int (i32 v1)) rfl (fun _ => rfl) ?_
          refine K_iald 293 22 (m.2 22) rfl rfl rfl (by omega) (show v1 < (1090 : Int) by omega) (show (m2.2 22) = (m.2 22) from (fr2 Fm2 22 rfl)) ?_
          have e17 : 0 ≤ m.2 22 v1 ∧ m.2 22 v1 ≤ 64 := hT.2.1 22 v1
          refine T_callx 296 116 [.int (i32 ((m.2 22) v1))] [.long (i64 ((m.2 24) v1)), .int (i32 v1), .ref 30] rfl (fun _ => rfl) rfl rfl (c_pw_ones w (mO m2 [] []) c N D (by omega) Tm2 ((m.2 22) v1) (r32 (by omega) (by omega))) (fun rr18 k19 => ?_)
          obtain ⟨x20, g21, rfl⟩ := k19
          refine Or.inl ⟨_, _, _, _, rfl, ?_⟩
          refine T_ns (st' := [.long (i64 x20), .long (i64 ((m.2 24) v1)), .int (i32 v1), .ref 30]) rfl ?_
          obtain ⟨g21a, g21b⟩ := g21
          refine T_lhv 297 _ rfl (fun _ => rfl) (fun z22 h23 => ?_)
          obtain ⟨h23a, h23b⟩ := h23
          have G24 : ∀ j, (-9223372036854775808) ≤ (upI (m2.2 25) v1 z22) j ∧ (upI (m2.2 25) v1 z22) j ≤ 9223372036854775807 := upI_rg (Tm2.2.1 25) ⟨by omega, by omega⟩
          refine K_last (a' := [(25, upI (m2.2 25) v1 z22)]) 298 25 (m2.2 25) rfl rfl rfl (by omega) (show v1 < (1090 : Int) by omega) rfl rfl ?_
          refine T_iinc 301 [(5, .int (i32 (v1 + 1))), (6, .long (i64 ((m.2 24) v1))), (0, .ref 22), (2, .int (i32 b)), (3, .ref (obq (m.2 107) s + (1 + 1))), (4, .ref (obq (m.2 107) d + (5 + 1)))] rfl rfl (by decide) rfl rfl ?_
          refine T_goto 3 rfl (fun _ => rfl) ?_
          refine Tm_lv (a := [(0, .ref 22), (2, .int (i32 b)), (3, .ref (obq (m.2 107) s + (1 + 1))), (4, .ref (obq (m.2 107) d + (5 + 1))), (5, .int (i32 (v1 + 1)))]) rfl rfl ⟨rfl, rfl, rfl, rfl, rfl, trivial⟩ ?_
          exact ih11 (v1 + 1) (mO m2 [] [(25, upI (m2.2 25) v1 z22)]) (r32 (by omega) (by omega)) (KTy_mO Tm2 rfl rfl trivial ⟨G24, trivial⟩) (fr_m (fr_s Fm2 (fr_m fr_0 rfl rfl) rfl rfl) rfl rfl) (show 0 ≤ (v1 + 1) by omega) (show (v1 + 1) ≤ 1090 by omega) (show 0 ≤ (v1 + 1) ∧ (v1 + 1) ≤ 1090 by omega) (show 1100 - (v1 + 1) < (n10 : Int) by omega)
        by_cases h25 : (m.2 18) v1 = 400
        · skip
          refine T_cast 400 h25 ?_
          refine T_pop 88 rfl (fun _ => rfl) ?_
          refine T_ld 89 (.ref (obq (m.2 107) s + (1 + 1))) rfl (fun _ => rfl) ?_
          refine T_ld 90 (.ref 22) rfl (fun _ => rfl) ?_
          refine K_gf 93 (.ref 24) rfl rfl kd_22 rfl rfl rfl ?_
          refine T_ld 95 (.int (i32 v1)) rfl (fun _ => rfl) ?_
          refine K_iald 96 19 (m.2 19) rfl rfl rfl (by omega) (show v1 < (1090 : Int) by omega) (show (m2.2 19) = (m.2 19) from (fr2 Fm2 19 rfl)) ?_
          have e26 : 0 ≤ m.2 19 v1 ∧ m.2 19 v1 ≤ 1089 := hT.2.1 19 v1
          have hN1 := (hNK v1).1 (by omega)
          refine K_lalo 97 1 (m.2 101) rfl rfl rfl (OKr_c (show (m2.2 107) = (m.2 107) from (fr2 Fm2 107 rfl)) (show (m2.2 108) = (m.2 108) from (fr2 Fm2 108 rfl)) pOKs) (congrArg (fun f : Int → Int => (f s).toNat) (show (m2.2 107) = (m.2 107) from (fr2 Fm2 107 rfl))) (by omega) (show ((m.2 19) v1) < (221 : Int) by omega) (show (m2.2 101) = (m.2 101) from (fr2 Fm2 101 rfl)) ?_
          have e27 : (-9223372036854775808) ≤ m.2 101 (65536 * s + ((m.2 19) v1)) ∧ m.2 101 (65536 * s + ((m.2 19) v1)) ≤ 9223372036854775807 := hT.2.1 101 (65536 * s + ((m.2 19) v1))
          refine T_sto 99 [(6, .long (i64 ((m.2 101) (65536 * s + ((m.2 19) v1))))), (0, .ref 22), (2, .int (i32 b)), (3, .ref (obq (m.2 107) s + (1 + 1))), (4, .ref (obq (m.2 107) d + (5 + 1))), (5, .int (i32 v1))] rfl (fun _ => rfl) ?_
          refine T_goto 278 rfl (fun _ => rfl) ?_
          refine T_ld 279 (.ref 22) rfl (fun _ => rfl) ?_
          refine K_gf 282 (.ref 30) rfl rfl kd_22 rfl rfl rfl ?_
          refine T_ld 284 (.int (i32 v1)) rfl (fun _ => rfl) ?_
          refine T_ld 286 (.long (i64 ((m.2 101) (65536 * s + ((m.2 19) v1))))) rfl (fun _ => rfl) ?_
          refine T_ld 287 (.ref 22) rfl (fun _ => rfl) ?_
          refine K_gf 290 (.ref 27) rfl rfl kd_22 rfl rfl rfl ?_
          refine T_ld 292 (.int (i32 v1)) rfl (fun _ => rfl) ?_
          refine K_iald 293 22 (m.2 22) rfl rfl rfl (by omega) (show v1 < (1090 : Int) by omega) (show (m2.2 22) = (m.2 22) from (fr2 Fm2 22 rfl)) ?_
          have e28 : 0 ≤ m.2 22 v1 ∧ m.2 22 v1 ≤ 64 := hT.2.1 22 v1
          refine T_callx 296 116 [.int (i32 ((m.2 22) v1))] [.long (i64 ((m.2 101) (65536 * s + ((m.2 19) v1)))), .int (i32 v1), .ref 30] rfl (fun _ => rfl) rfl rfl (c_pw_ones w (mO m2 [] []) c N D (by omega) Tm2 ((m.2 22) v1) (r32 (by omega) (by omega))) (fun rr29 k30 => ?_)
          obtain ⟨x31, g32, rfl⟩ := k30
          refine Or.inl ⟨_, _, _, _, rfl, ?_⟩
          refine T_ns (st' := [.long (i64 x31), .long (i64 ((m.2 101) (65536 * s + ((m.2 19) v1)))), .int (i32 v1), .ref 30]) rfl ?_
          obtain ⟨g32a, g32b⟩ := g32
          refine T_lhv 297 _ rfl (fun _ => rfl) (fun z33 h34 => ?_)
          obtain ⟨h34a, h34b⟩ := h34
          have G35 : ∀ j, (-9223372036854775808) ≤ (upI (m2.2 25) v1 z33) j ∧ (upI (m2.2 25) v1 z33) j ≤ 9223372036854775807 := upI_rg (Tm2.2.1 25) ⟨by omega, by omega⟩
          refine K_last (a' := [(25, upI (m2.2 25) v1 z33)]) 298 25 (m2.2 25) rfl rfl rfl (by omega) (show v1 < (1090 : Int) by omega) rfl rfl ?_
          refine T_iinc 301 [(5, .int (i32 (v1 + 1))), (6, .long (i64 ((m.2 101) (65536 * s + ((m.2 19) v1))))), (0, .ref 22), (2, .int (i32 b)), (3, .ref (obq (m.2 107) s + (1 + 1))), (4, .ref (obq (m.2 107) d + (5 + 1)))] rfl rfl (by decide) rfl rfl ?_
          refine T_goto 3 rfl (fun _ => rfl) ?_
          refine Tm_lv (a := [(0, .ref 22), (2, .int (i32 b)), (3, .ref (obq (m.2 107) s + (1 + 1))), (4, .ref (obq (m.2 107) d + (5 + 1))), (5, .int (i32 (v1 + 1)))]) rfl rfl ⟨rfl, rfl, rfl, rfl, rfl, trivial⟩ ?_
          exact ih11 (v1 + 1) (mO m2 [] [(25, upI (m2.2 25) v1 z33)]) (r32 (by omega) (by omega)) (KTy_mO Tm2 rfl rfl trivial ⟨G35, trivial⟩) (fr_m (fr_s Fm2 (fr_m fr_0 rfl rfl) rfl rfl) rfl rfl) (show 0 ≤ (v1 + 1) by omega) (show (v1 + 1) ≤ 1090 by omega) (show 0 ≤ (v1 + 1) ∧ (v1 + 1) ≤ 1090 by omega) (show 1100 - (v1 + 1) < (n10 : Int) by omega)
        by_cases h36 : (m.2 18) v1 = 401
        · skip
          refine T_cast 401 h36 ?_
          refine T_pop 102 rfl (fun _ => rfl) ?_
          refine T_ld 104 (.ref (obq (m.2 107) d + (5 + 1))) rfl (fun _ => rfl) ?_
          refine T_ld 105 (.ref 22) rfl (fun _ => rfl) ?_
          refine K_gf 108 (.ref 24) rfl rfl kd_22 rfl rfl rfl ?_
          refine T_ld 110 (.int (i32 v1)) rfl (fun _ => rfl) ?_
          refine K_iald 111 19 (m.2 19) rfl rfl rfl (by omega) (show v1 < (1090 : Int) by omega) (show (m2.2 19) = (m.2 19) from (fr2 Fm2 19 rfl)) ?_
          have e37 : 0 ≤ m.2 19 v1 ∧ m.2 19 v1 ≤ 1089 := hT.2.1 19 v1
          have hN1 := (hNK v1).2 (by omega)
          refine K_lalo 112 5 (m.2 105) rfl rfl rfl (OKr_c (show (m2.2 107) = (m.2 107) from (fr2 Fm2 107 rfl)) (show (m2.2 108) = (m.2 108) from (fr2 Fm2 108 rfl)) pOKd) (congrArg (fun f : Int → Int => (f d).toNat) (show (m2.2 107) = (m.2 107) from (fr2 Fm2 107 rfl))) (by omega) (show ((m.2 19) v1) < (4 : Int) by omega) (show (m2.2 105) = (m.2 105) from (fr2 Fm2 105 rfl)) ?_
          have e38 : (-9223372036854775808) ≤ m.2 105 (65536 * d + ((m.2 19) v1)) ∧ m.2 105 (65536 * d + ((m.2 19) v1)) ≤ 9223372036854775807 := hT.2.1 105 (65536 * d + ((m.2 19) v1))
          refine T_sto 114 [(6, .long (i64 ((m.2 105) (65536 * d + ((m.2 19) v1))))), (0, .ref 22), (2, .int (i32 b)), (3, .ref (obq (m.2 107) s + (1 + 1))), (4, .ref (obq (m.2 107) d + (5 + 1))), (5, .int (i32 v1))] rfl (fun _ => rfl) ?_
          refine T_goto 278 rfl (fun _ => rfl) ?_
          refine T_ld 279 (.ref 22) rfl (fun _ => rfl) ?_
          refine K_gf 282 (.ref 30) rfl rfl kd_22 rfl rfl rfl ?_
          refine T_ld 284 (.int (i32 v1)) rfl (fun _ => rfl) ?_
          refine T_ld 286 (.long (i64 ((m.2 105) (65536 * d + ((m.2 19) v1))))) rfl (fun _ => rfl) ?_
          refine T_ld 287 (.ref 22) rfl (fun _ => rfl) ?_
          refine K_gf 290 (.ref 27) rfl rfl kd_22 rfl rfl rfl ?_
          refine T_ld 292 (.int (i32 v1)) rfl (fun _ => rfl) ?_
          refine K_iald 293 22 (m.2 22) rfl rfl rfl (by omega) (show v1 < (1090 : Int) by omega) (show (m2.2 22) = (m.2 22) from (fr2 Fm2 22 rfl)) ?_
          have e39 : 0 ≤ m.2 22 v1 ∧ m.2 22 v1 ≤ 64 := hT.2.1 22 v1
          refine T_callx 296 116 [.int (i32 ((m.2 22) v1))] [.long (i64 ((m.2 105) (65536 * d + ((m.2 19) v1)))), .int (i32 v1), .ref 30] rfl (fun _ => rfl) rfl rfl (c_pw_ones w (mO m2 [] []) c N D (by omega) Tm2 ((m.2 22) v1) (r32 (by omega) (by omega))) (fun rr40 k41 => ?_)
          obtain ⟨x42, g43, rfl⟩ := k41
          refine Or.inl ⟨_, _, _, _, rfl, ?_⟩
          refine T_ns (st' := [.long (i64 x42), .long (i64 ((m.2 105) (65536 * d + ((m.2 19) v1)))), .int (i32 v1), .ref 30]) rfl ?_
          obtain ⟨g43a, g43b⟩ := g43
          refine T_lhv 297 _ rfl (fun _ => rfl) (fun z44 h45 => ?_)
          obtain ⟨h45a, h45b⟩ := h45
          have G46 : ∀ j, (-9223372036854775808) ≤ (upI (m2.2 25) v1 z44) j ∧ (upI (m2.2 25) v1 z44) j ≤ 9223372036854775807 := upI_rg (Tm2.2.1 25) ⟨by omega, by omega⟩
          refine K_last (a' := [(25, upI (m2.2 25) v1 z44)]) 298 25 (m2.2 25) rfl rfl rfl (by omega) (show v1 < (1090 : Int) by omega) rfl rfl ?_
          refine T_iinc 301 [(5, .int (i32 (v1 + 1))), (6, .long (i64 ((m.2 105) (65536 * d + ((m.2 19) v1))))), (0, .ref 22), (2, .int (i32 b)), (3, .ref (obq (m.2 107) s + (1 + 1))), (4, .ref (obq (m.2 107) d + (5 + 1)))] rfl rfl (by decide) rfl rfl ?_
          refine T_goto 3 rfl (fun _ => rfl) ?_
          refine Tm_lv (a := [(0, .ref 22), (2, .int (i32 b)), (3, .ref (obq (m.2 107) s + (1 + 1))), (4, .ref (obq (m.2 107) d + (5 + 1))), (5, .int (i32 (v1 + 1)))]) rfl rfl ⟨rfl, rfl, rfl, rfl, rfl, trivial⟩ ?_
          exact ih11 (v1 + 1) (mO m2 [] [(25, upI (m2.2 25) v1 z44)]) (r32 (by omega) (by omega)) (KTy_mO Tm2 rfl rfl trivial ⟨G46, trivial⟩) (fr_m (fr_s Fm2 (fr_m fr_0 rfl rfl) rfl rfl) rfl rfl) (show 0 ≤ (v1 + 1) by omega) (show (v1 + 1) ≤ 1090 by omega) (show 0 ≤ (v1 + 1) ∧ (v1 + 1) ≤ 1090 by omega) (show 1100 - (v1 + 1) < (n10 : Int) by omega)
        by_cases h47 : (m.2 18) v1 = 402
        · skip
          refine T_cast 402 h47 ?_
          refine T_pop 117 rfl (fun _ => rfl) ?_
          refine T_ld 118 (.ref 22) rfl (fun _ => rfl) ?_
          refine K_gf 121 (.ref 30) rfl rfl kd_22 rfl rfl rfl ?_
          refine T_ld 122 (.ref 22) rfl (fun _ => rfl) ?_
          refine K_gf 125 (.ref 24) rfl rfl kd_22 rfl rfl rfl ?_
          refine T_ld 127 (.int (i32 v1)) rfl (fun _ => rfl) ?_
          refine K_iald 128 19 (m.2 19) rfl rfl rfl (by omega) (show v1 < (1090 : Int) by omega) (show (m2.2 19) = (m.2 19) from (fr2 Fm2 19 rfl)) ?_
          have e48 : 0 ≤ m.2 19 v1 ∧ m.2 19 v1 ≤ 1089 := hT.2.1 19 v1
          refine K_lald 129 25 (m2.2 25) rfl rfl rfl (by omega) (show ((m.2 19) v1) < (1090 : Int) by omega) rfl ?_
          have e49 : (-9223372036854775808) ≤ (m2.2 25) ((m.2 19) v1) ∧ (m2.2 25) ((m.2 19) v1) ≤ 9223372036854775807 := (Tm2.2.1 25) ((m.2 19) v1)
          refine T_ld 130 (.ref 22) rfl (fun _ => rfl) ?_
          refine K_gf 133 (.ref 25) rfl rfl kd_22 rfl rfl rfl ?_
          refine T_ld 135 (.int (i32 v1)) rfl (fun _ => rfl) ?_
          refine K_iald 136 20 (m.2 20) rfl rfl rfl (by omega) (show v1 < (1090 : Int) by omega) (show (m2.2 20) = (m.2 20) from (fr2 Fm2 20 rfl)) ?_
          have e50 : 0 ≤ m.2 20 v1 ∧ m.2 20 v1 ≤ 1089 := hT.2.1 20 v1
          refine T_lhv 137 _ rfl (fun _ => rfl) (fun z51 h52 => ?_)
          obtain ⟨h52a, h52b⟩ := h52
          refine T_sto 139 [(6, .long (i64 z51)), (0, .ref 22), (2, .int (i32 b)), (3, .ref (obq (m.2 107) s + (1 + 1))), (4, .ref (obq (m.2 107) d + (5 + 1))), (5, .int (i32 v1))] rfl (fun _ => rfl) ?_
          refine T_goto 278 rfl (fun _ => rfl) ?_
          refine T_ld 279 (.ref 22) rfl (fun _ => rfl) ?_
          refine K_gf 282 (.ref 30) rfl rfl kd_22 rfl rfl rfl ?_
          refine T_ld 284 (.int (i32 v1)) rfl (fun _ => rfl) ?_
          refine T_ld 286 (.long (i64 z51)) rfl (fun _ => rfl) ?_
          refine T_ld 287 (.ref 22) rfl (fun _ => rfl) ?_
          refine K_gf 290 (.ref 27) rfl rfl kd_22 rfl rfl rfl ?_
          refine T_ld 292 (.int (i32 v1)) rfl (fun _ => rfl) ?_
          refine K_iald 293 22 (m.2 22) rfl rfl rfl (by omega) (show v1 < (1090 : Int) by omega) (show (m2.2 22) = (m.2 22) from (fr2 Fm2 22 rfl)) ?_
          have e53 : 0 ≤ m.2 22 v1 ∧ m.2 22 v1 ≤ 64 := hT.2.1 22 v1
          refine T_callx 296 116 [.int (i32 ((m.2 22) v1))] [.long (i64 z51), .int (i32 v1), .ref 30] rfl (fun _ => rfl) rfl rfl (c_pw_ones w (mO m2 [] []) c N D (by omega) Tm2 ((m.2 22) v1) (r32 (by omega) (by omega))) (fun rr54 k55 => ?_)
          obtain ⟨x56, g57, rfl⟩ := k55
          refine Or.inl ⟨_, _, _, _, rfl, ?_⟩
          refine T_ns (st' := [.long (i64 x56), .long (i64 z51), .int (i32 v1), .ref 30]) rfl ?_
          obtain ⟨g57a, g57b⟩ := g57
          refine T_lhv 297 _ rfl (fun _ => rfl) (fun z58 h59 => ?_)
          obtain ⟨h59a, h59b⟩ := h59
          have G60 : ∀ j, (-9223372036854775808) ≤ (upI (m2.2 25) v1 z58) j ∧ (upI (m2.2 25) v1 z58) j ≤ 9223372036854775807 := upI_rg (Tm2.2.1 25) ⟨by omega, by omega⟩
          refine K_last (a' := [(25, upI (m2.2 25) v1 z58)]) 298 25 (m2.2 25) rfl rfl rfl (by omega) (show v1 < (1090 : Int) by omega) rfl rfl ?_
          refine T_iinc 301 [(5, .int (i32 (v1 + 1))), (6, .long (i64 z51)), (0, .ref 22), (2, .int (i32 b)), (3, .ref (obq (m.2 107) s + (1 + 1))), (4, .ref (obq (m.2 107) d + (5 + 1)))] rfl rfl (by decide) rfl rfl ?_
          refine T_goto 3 rfl (fun _ => rfl) ?_
          refine Tm_lv (a := [(0, .ref 22), (2, .int (i32 b)), (3, .ref (obq (m.2 107) s + (1 + 1))), (4, .ref (obq (m.2 107) d + (5 + 1))), (5, .int (i32 (v1 + 1)))]) rfl rfl ⟨rfl, rfl, rfl, rfl, rfl, trivial⟩ ?_
          exact ih11 (v1 + 1) (mO m2 [] [(25, upI (m2.2 25) v1 z58)]) (r32 (by omega) (by omega)) (KTy_mO Tm2 rfl rfl trivial ⟨G60, trivial⟩) (fr_m (fr_s Fm2 (fr_m fr_0 rfl rfl) rfl rfl) rfl rfl) (show 0 ≤ (v1 + 1) by omega) (show (v1 + 1) ≤ 1090 by omega) (show 0 ≤ (v1 + 1) ∧ (v1 + 1) ≤ 1090 by omega) (show 1100 - (v1 + 1) < (n10 : Int) by omega)
        by_cases h61 : (m.2 18) v1 = 404
        · skip
          refine T_cast 404 h61 ?_
          refine T_pop 142 rfl (fun _ => rfl) ?_
          refine T_ld 143 (.ref 22) rfl (fun _ => rfl) ?_
          refine K_gf 146 (.ref 30) rfl rfl kd_22 rfl rfl rfl ?_
          refine T_ld 147 (.ref 22) rfl (fun _ => rfl) ?_
          refine K_gf 150 (.ref 24) rfl rfl kd_22 rfl rfl rfl ?_
          refine T_ld 152 (.int (i32 v1)) rfl (fun _ => rfl) ?_
          refine K_iald 153 19 (m.2 19) rfl rfl rfl (by omega) (show v1 < (1090 : Int) by omega) (show (m2.2 19) = (m.2 19) from (fr2 Fm2 19 rfl)) ?_
          have e62 : 0 ≤ m.2 19 v1 ∧ m.2 19 v1 ≤ 1089 := hT.2.1 19 v1
          refine K_lald 154 25 (m2.2 25) rfl rfl rfl (by omega) (show ((m.2 19) v1) < (1090 : Int) by omega) rfl ?_
          have e63 : (-9223372036854775808) ≤ (m2.2 25) ((m.2 19) v1) ∧ (m2.2 25) ((m.2 19) v1) ≤ 9223372036854775807 := (Tm2.2.1 25) ((m.2 19) v1)
          refine T_ld 155 (.long (i64 0)) rfl (fun _ => rfl) ?_
          refine T_lcmp 156 rfl rfl (r64 (by omega) (by omega)) ⟨by decide, by decide⟩ (fun z64 h65 => ?_)
          obtain ⟨h65a, h65b, h65c, h65d, h65e⟩ := h65
          refine T_if 174 159 rfl rfl rfl (r32 (by omega) (by omega)) (fun (h66 : z64 = 0) => ?_) (fun (h66 : ¬ (z64 = 0)) => ?_)
          · skip
            have hl67 : (m2.2 25) ((m.2 19) v1) = 0 := by omega
            refine T_ld 175 (.ref 22) rfl (fun _ => rfl) ?_
            refine K_gf 178 (.ref 30) rfl rfl kd_22 rfl rfl rfl ?_
            refine T_ld 179 (.ref 22) rfl (fun _ => rfl) ?_
            refine K_gf 182 (.ref 26) rfl rfl kd_22 rfl rfl rfl ?_
            refine T_ld 184 (.int (i32 v1)) rfl (fun _ => rfl) ?_
            refine K_iald 185 21 (m.2 21) rfl rfl rfl (by omega) (show v1 < (1090 : Int) by omega) (show (m2.2 21) = (m.2 21) from (fr2 Fm2 21 rfl)) ?_
            have e68 : 0 ≤ m.2 21 v1 ∧ m.2 21 v1 ≤ 1089 := hT.2.1 21 v1
            refine K_lald 186 25 (m2.2 25) rfl rfl rfl (by omega) (show ((m.2 21) v1) < (1090 : Int) by omega) rfl ?_
            have e69 : (-9223372036854775808) ≤ (m2.2 25) ((m.2 21) v1) ∧ (m2.2 25) ((m.2 21) v1) ≤ 9223372036854775807 := (Tm2.2.1 25) ((m.2 21) v1)
            refine T_sto 188 [(6, .long (i64 ((m2.2 25) ((m.2 21) v1)))), (0, .ref 22), (2, .int (i32 b)), (3, .ref (obq (m.2 107) s + (1 + 1))), (4, .ref (obq (m.2 107) d + (5 + 1))), (5, .int (i32 v1))] rfl (fun _ => rfl) ?_
            refine T_goto 278 rfl (fun _ => rfl) ?_
            refine T_ld 279 (.ref 22) rfl (fun _ => rfl) ?_
            refine K_gf 282 (.ref 30) rfl rfl kd_22 rfl rfl rfl ?_
            refine T_ld 284 (.int (i32 v1)) rfl (fun _ => rfl) ?_
            refine T_ld 286 (.long (i64 ((m2.2 25) ((m.2 21) v1)))) rfl (fun _ => rfl) ?_
            refine T_ld 287 (.ref 22) rfl (fun _ => rfl) ?_
            refine K_gf 290 (.ref 27) rfl rfl kd_22 rfl rfl rfl ?_
            refine T_ld 292 (.int (i32 v1)) rfl (fun _ => rfl) ?_
            refine K_iald 293 22 (m.2 22) rfl rfl rfl (by omega) (show v1 < (1090 : Int) by omega) (show (m2.2 22) = (m.2 22) from (fr2 Fm2 22 rfl)) ?_
            have e70 : 0 ≤ m.2 22 v1 ∧ m.2 22 v1 ≤ 64 := hT.2.1 22 v1
            refine T_callx 296 116 [.int (i32 ((m.2 22) v1))] [.long (i64 ((m2.2 25) ((m.2 21) v1))), .int (i32 v1), .ref 30] rfl (fun _ => rfl) rfl rfl (c_pw_ones w (mO m2 [] []) c N D (by omega) Tm2 ((m.2 22) v1) (r32 (by omega) (by omega))) (fun rr71 k72 => ?_)
            obtain ⟨x73, g74, rfl⟩ := k72
            refine Or.inl ⟨_, _, _, _, rfl, ?_⟩
            refine T_ns (st' := [.long (i64 x73), .long (i64 ((m2.2 25) ((m.2 21) v1))), .int (i32 v1), .ref 30]) rfl ?_
            obtain ⟨g74a, g74b⟩ := g74
            refine T_lhv 297 _ rfl (fun _ => rfl) (fun z75 h76 => ?_)
            obtain ⟨h76a, h76b⟩ := h76
            have G77 : ∀ j, (-9223372036854775808) ≤ (upI (m2.2 25) v1 z75) j ∧ (upI (m2.2 25) v1 z75) j ≤ 9223372036854775807 := upI_rg (Tm2.2.1 25) ⟨by omega, by omega⟩
            refine K_last (a' := [(25, upI (m2.2 25) v1 z75)]) 298 25 (m2.2 25) rfl rfl rfl (by omega) (show v1 < (1090 : Int) by omega) rfl rfl ?_
            refine T_iinc 301 [(5, .int (i32 (v1 + 1))), (6, .long (i64 ((m2.2 25) ((m.2 21) v1)))), (0, .ref 22), (2, .int (i32 b)), (3, .ref (obq (m.2 107) s + (1 + 1))), (4, .ref (obq (m.2 107) d + (5 + 1)))] rfl rfl (by decide) rfl rfl ?_
            refine T_goto 3 rfl (fun _ => rfl) ?_
            refine Tm_lv (a := [(0, .ref 22), (2, .int (i32 b)), (3, .ref (obq (m.2 107) s + (1 + 1))), (4, .ref (obq (m.2 107) d + (5 + 1))), (5, .int (i32 (v1 + 1)))]) rfl rfl ⟨rfl, rfl, rfl, rfl, rfl, trivial⟩ ?_
            exact ih11 (v1 + 1) (mO m2 [] [(25, upI (m2.2 25) v1 z75)]) (r32 (by omega) (by omega)) (KTy_mO Tm2 rfl rfl trivial ⟨G77, trivial⟩) (fr_m (fr_s Fm2 (fr_m fr_0 rfl rfl) rfl rfl) rfl rfl) (show 0 ≤ (v1 + 1) by omega) (show (v1 + 1) ≤ 1090 by omega) (show 0 ≤ (v1 + 1) ∧ (v1 + 1) ≤ 1090 by omega) (show 1100 - (v1 + 1) < (n10 : Int) by omega)
          · skip
            have hl78 : (m2.2 25) ((m.2 19) v1) ≠ 0 := by omega
            refine T_ld 160 (.ref 22) rfl (fun _ => rfl) ?_
            refine K_gf 163 (.ref 30) rfl rfl kd_22 rfl rfl rfl ?_
            refine T_ld 164 (.ref 22) rfl (fun _ => rfl) ?_
            refine K_gf 167 (.ref 25) rfl rfl kd_22 rfl rfl rfl ?_
            refine T_ld 169 (.int (i32 v1)) rfl (fun _ => rfl) ?_
            refine K_iald 170 20 (m.2 20) rfl rfl rfl (by omega) (show v1 < (1090 : Int) by omega) (show (m2.2 20) = (m.2 20) from (fr2 Fm2 20 rfl)) ?_
            have e79 : 0 ≤ m.2 20 v1 ∧ m.2 20 v1 ≤ 1089 := hT.2.1 20 v1
            refine K_lald 171 25 (m2.2 25) rfl rfl rfl (by omega) (show ((m.2 20) v1) < (1090 : Int) by omega) rfl ?_
            have e80 : (-9223372036854775808) ≤ (m2.2 25) ((m.2 20) v1) ∧ (m2.2 25) ((m.2 20) v1) ≤ 9223372036854775807 := (Tm2.2.1 25) ((m.2 20) v1)
            refine T_goto 186 rfl (fun _ => rfl) ?_
            refine T_sto 188 [(6, .long (i64 ((m2.2 25) ((m.2 20) v1)))), (0, .ref 22), (2, .int (i32 b)), (3, .ref (obq (m.2 107) s + (1 + 1))), (4, .ref (obq (m.2 107) d + (5 + 1))), (5, .int (i32 v1))] rfl (fun _ => rfl) ?_
            refine T_goto 278 rfl (fun _ => rfl) ?_
            refine T_ld 279 (.ref 22) rfl (fun _ => rfl) ?_
            refine K_gf 282 (.ref 30) rfl rfl kd_22 rfl rfl rfl ?_
            refine T_ld 284 (.int (i32 v1)) rfl (fun _ => rfl) ?_
            refine T_ld 286 (.long (i64 ((m2.2 25) ((m.2 20) v1)))) rfl (fun _ => rfl) ?_
            refine T_ld 287 (.ref 22) rfl (fun _ => rfl) ?_
            refine K_gf 290 (.ref 27) rfl rfl kd_22 rfl rfl rfl ?_
            refine T_ld 292 (.int (i32 v1)) rfl (fun _ => rfl) ?_
            refine K_iald 293 22 (m.2 22) rfl rfl rfl (by omega) (show v1 < (1090 : Int) by omega) (show (m2.2 22) = (m.2 22) from (fr2 Fm2 22 rfl)) ?_
            have e81 : 0 ≤ m.2 22 v1 ∧ m.2 22 v1 ≤ 64 := hT.2.1 22 v1
            refine T_callx 296 116 [.int (i32 ((m.2 22) v1))] [.long (i64 ((m2.2 25) ((m.2 20) v1))), .int (i32 v1), .ref 30] rfl (fun _ => rfl) rfl rfl (c_pw_ones w (mO m2 [] []) c N D (by omega) Tm2 ((m.2 22) v1) (r32 (by omega) (by omega))) (fun rr82 k83 => ?_)
            obtain ⟨x84, g85, rfl⟩ := k83
            refine Or.inl ⟨_, _, _, _, rfl, ?_⟩
            refine T_ns (st' := [.long (i64 x84), .long (i64 ((m2.2 25) ((m.2 20) v1))), .int (i32 v1), .ref 30]) rfl ?_
            obtain ⟨g85a, g85b⟩ := g85
            refine T_lhv 297 _ rfl (fun _ => rfl) (fun z86 h87 => ?_)
            obtain ⟨h87a, h87b⟩ := h87
            have G88 : ∀ j, (-9223372036854775808) ≤ (upI (m2.2 25) v1 z86) j ∧ (upI (m2.2 25) v1 z86) j ≤ 9223372036854775807 := upI_rg (Tm2.2.1 25) ⟨by omega, by omega⟩
            refine K_last (a' := [(25, upI (m2.2 25) v1 z86)]) 298 25 (m2.2 25) rfl rfl rfl (by omega) (show v1 < (1090 : Int) by omega) rfl rfl ?_
            refine T_iinc 301 [(5, .int (i32 (v1 + 1))), (6, .long (i64 ((m2.2 25) ((m.2 20) v1)))), (0, .ref 22), (2, .int (i32 b)), (3, .ref (obq (m.2 107) s + (1 + 1))), (4, .ref (obq (m.2 107) d + (5 + 1)))] rfl rfl (by decide) rfl rfl ?_
            refine T_goto 3 rfl (fun _ => rfl) ?_
            refine Tm_lv (a := [(0, .ref 22), (2, .int (i32 b)), (3, .ref (obq (m.2 107) s + (1 + 1))), (4, .ref (obq (m.2 107) d + (5 + 1))), (5, .int (i32 (v1 + 1)))]) rfl rfl ⟨rfl, rfl, rfl, rfl, rfl, trivial⟩ ?_
            exact ih11 (v1 + 1) (mO m2 [] [(25, upI (m2.2 25) v1 z86)]) (r32 (by omega) (by omega)) (KTy_mO Tm2 rfl rfl trivial ⟨G88, trivial⟩) (fr_m (fr_s Fm2 (fr_m fr_0 rfl rfl) rfl rfl) rfl rfl) (show 0 ≤ (v1 + 1) by omega) (show (v1 + 1) ≤ 1090 by omega) (show 0 ≤ (v1 + 1) ∧ (v1 + 1) ≤ 1090 by omega) (show 1100 - (v1 + 1) < (n10 : Int) by omega)
        by_cases h89 : (m.2 18) v1 = 11051
        · skip
          refine T_cast 11051 h89 ?_
          refine T_pop 191 rfl (fun _ => rfl) ?_
          refine T_ld 192 (.ref 22) rfl (fun _ => rfl) ?_
          refine K_gf 195 (.ref 30) rfl rfl kd_22 rfl rfl rfl ?_
          refine T_ld 196 (.ref 22) rfl (fun _ => rfl) ?_
          refine K_gf 199 (.ref 24) rfl rfl kd_22 rfl rfl rfl ?_
          refine T_ld 201 (.int (i32 v1)) rfl (fun _ => rfl) ?_
          refine K_iald 202 19 (m.2 19) rfl rfl rfl (by omega) (show v1 < (1090 : Int) by omega) (show (m2.2 19) = (m.2 19) from (fr2 Fm2 19 rfl)) ?_
          have e90 : 0 ≤ m.2 19 v1 ∧ m.2 19 v1 ≤ 1089 := hT.2.1 19 v1
          refine K_lald 203 25 (m2.2 25) rfl rfl rfl (by omega) (show ((m.2 19) v1) < (1090 : Int) by omega) rfl ?_
          have e91 : (-9223372036854775808) ≤ (m2.2 25) ((m.2 19) v1) ∧ (m2.2 25) ((m.2 19) v1) ≤ 9223372036854775807 := (Tm2.2.1 25) ((m.2 19) v1)
          refine T_ld 204 (.ref 22) rfl (fun _ => rfl) ?_
          refine K_gf 207 (.ref 27) rfl rfl kd_22 rfl rfl rfl ?_
          refine T_ld 208 (.ref 22) rfl (fun _ => rfl) ?_
          refine K_gf 211 (.ref 25) rfl rfl kd_22 rfl rfl rfl ?_
          refine T_ld 213 (.int (i32 v1)) rfl (fun _ => rfl) ?_
          refine K_iald 214 20 (m.2 20) rfl rfl rfl (by omega) (show v1 < (1090 : Int) by omega) (show (m2.2 20) = (m.2 20) from (fr2 Fm2 20 rfl)) ?_
          have e92 : 0 ≤ m.2 20 v1 ∧ m.2 20 v1 ≤ 1089 := hT.2.1 20 v1
          refine K_iald 215 22 (m.2 22) rfl rfl rfl (by omega) (show ((m.2 20) v1) < (1090 : Int) by omega) (show (m2.2 22) = (m.2 22) from (fr2 Fm2 22 rfl)) ?_
          have e93 : 0 ≤ m.2 22 ((m.2 20) v1) ∧ m.2 22 ((m.2 20) v1) ≤ 64 := hT.2.1 22 ((m.2 20) v1)
          refine T_lhv 216 _ rfl (fun _ => rfl) (fun z94 h95 => ?_)
          obtain ⟨h95a, h95b⟩ := h95
          refine T_ld 217 (.ref 22) rfl (fun _ => rfl) ?_
          refine K_gf 220 (.ref 30) rfl rfl kd_22 rfl rfl rfl ?_
          refine T_ld 221 (.ref 22) rfl (fun _ => rfl) ?_
          refine K_gf 224 (.ref 25) rfl rfl kd_22 rfl rfl rfl ?_
          refine T_ld 226 (.int (i32 v1)) rfl (fun _ => rfl) ?_
          refine K_iald 227 20 (m.2 20) rfl rfl rfl (by omega) (show v1 < (1090 : Int) by omega) (show (m2.2 20) = (m.2 20) from (fr2 Fm2 20 rfl)) ?_
          have e96 : 0 ≤ m.2 20 v1 ∧ m.2 20 v1 ≤ 1089 := hT.2.1 20 v1
          refine K_lald 228 25 (m2.2 25) rfl rfl rfl (by omega) (show ((m.2 20) v1) < (1090 : Int) by omega) rfl ?_
          have e97 : (-9223372036854775808) ≤ (m2.2 25) ((m.2 20) v1) ∧ (m2.2 25) ((m.2 20) v1) ≤ 9223372036854775807 := (Tm2.2.1 25) ((m.2 20) v1)
          refine T_lhv 229 _ rfl (fun _ => rfl) (fun z98 h99 => ?_)
          obtain ⟨h99a, h99b⟩ := h99
          refine T_sto 231 [(6, .long (i64 z98)), (0, .ref 22), (2, .int (i32 b)), (3, .ref (obq (m.2 107) s + (1 + 1))), (4, .ref (obq (m.2 107) d + (5 + 1))), (5, .int (i32 v1))] rfl (fun _ => rfl) ?_
          refine T_goto 278 rfl (fun _ => rfl) ?_
          refine T_ld 279 (.ref 22) rfl (fun _ => rfl) ?_
          refine K_gf 282 (.ref 30) rfl rfl kd_22 rfl rfl rfl ?_
          refine T_ld 284 (.int (i32 v1)) rfl (fun _ => rfl) ?_
          refine T_ld 286 (.long (i64 z98)) rfl (fun _ => rfl) ?_
          refine T_ld 287 (.ref 22) rfl (fun _ => rfl) ?_
          refine K_gf 290 (.ref 27) rfl rfl kd_22 rfl rfl rfl ?_
          refine T_ld 292 (.int (i32 v1)) rfl (fun _ => rfl) ?_
          refine K_iald 293 22 (m.2 22) rfl rfl rfl (by omega) (show v1 < (1090 : Int) by omega) (show (m2.2 22) = (m.2 22) from (fr2 Fm2 22 rfl)) ?_
          have e100 : 0 ≤ m.2 22 v1 ∧ m.2 22 v1 ≤ 64 := hT.2.1 22 v1
          refine T_callx 296 116 [.int (i32 ((m.2 22) v1))] [.long (i64 z98), .int (i32 v1), .ref 30] rfl (fun _ => rfl) rfl rfl (c_pw_ones w (mO m2 [] []) c N D (by omega) Tm2 ((m.2 22) v1) (r32 (by omega) (by omega))) (fun rr101 k102 => ?_)
          obtain ⟨x103, g104, rfl⟩ := k102
          refine Or.inl ⟨_, _, _, _, rfl, ?_⟩
          refine T_ns (st' := [.long (i64 x103), .long (i64 z98), .int (i32 v1), .ref 30]) rfl ?_
          obtain ⟨g104a, g104b⟩ := g104
          refine T_lhv 297 _ rfl (fun _ => rfl) (fun z105 h106 => ?_)
          obtain ⟨h106a, h106b⟩ := h106
          have G107 : ∀ j, (-9223372036854775808) ≤ (upI (m2.2 25) v1 z105) j ∧ (upI (m2.2 25) v1 z105) j ≤ 9223372036854775807 := upI_rg (Tm2.2.1 25) ⟨by omega, by omega⟩
          refine K_last (a' := [(25, upI (m2.2 25) v1 z105)]) 298 25 (m2.2 25) rfl rfl rfl (by omega) (show v1 < (1090 : Int) by omega) rfl rfl ?_
          refine T_iinc 301 [(5, .int (i32 (v1 + 1))), (6, .long (i64 z98)), (0, .ref 22), (2, .int (i32 b)), (3, .ref (obq (m.2 107) s + (1 + 1))), (4, .ref (obq (m.2 107) d + (5 + 1)))] rfl rfl (by decide) rfl rfl ?_
          refine T_goto 3 rfl (fun _ => rfl) ?_
          refine Tm_lv (a := [(0, .ref 22), (2, .int (i32 b)), (3, .ref (obq (m.2 107) s + (1 + 1))), (4, .ref (obq (m.2 107) d + (5 + 1))), (5, .int (i32 (v1 + 1)))]) rfl rfl ⟨rfl, rfl, rfl, rfl, rfl, trivial⟩ ?_
          exact ih11 (v1 + 1) (mO m2 [] [(25, upI (m2.2 25) v1 z105)]) (r32 (by omega) (by omega)) (KTy_mO Tm2 rfl rfl trivial ⟨G107, trivial⟩) (fr_m (fr_s Fm2 (fr_m fr_0 rfl rfl) rfl rfl) rfl rfl) (show 0 ≤ (v1 + 1) by omega) (show (v1 + 1) ≤ 1090 by omega) (show 0 ≤ (v1 + 1) ∧ (v1 + 1) ≤ 1090 by omega) (show 1100 - (v1 + 1) < (n10 : Int) by omega)
        refine T_lkd 234 rfl rfl (r32 (by omega) (by omega)) (by simp [Op.lookupswitch.offset, show ¬ ((257 : Int) = (m.2 18) v1) by omega, show ¬ ((400 : Int) = (m.2 18) v1) by omega, show ¬ ((401 : Int) = (m.2 18) v1) by omega, show ¬ ((402 : Int) = (m.2 18) v1) by omega, show ¬ ((404 : Int) = (m.2 18) v1) by omega, show ¬ ((11051 : Int) = (m.2 18) v1) by omega]) ?_
        refine T_ld 235 (.ref 22) rfl (fun _ => rfl) ?_
        refine T_ld 236 (.ref 22) rfl (fun _ => rfl) ?_
        refine K_gf 239 (.ref 23) rfl rfl kd_22 rfl rfl rfl ?_
        refine T_ld 241 (.int (i32 v1)) rfl (fun _ => rfl) ?_
        refine K_iald 242 18 (m.2 18) rfl rfl rfl (by omega) (show v1 < (1090 : Int) by omega) (show (m2.2 18) = (m.2 18) from (fr2 Fm2 18 rfl)) ?_
        have e108 : 0 ≤ m.2 18 v1 ∧ m.2 18 v1 ≤ 65535 := hT.2.1 18 v1
        refine T_ld 243 (.ref 22) rfl (fun _ => rfl) ?_
        refine K_gf 246 (.ref 30) rfl rfl kd_22 rfl rfl rfl ?_
        refine T_ld 247 (.ref 22) rfl (fun _ => rfl) ?_
        refine K_gf 250 (.ref 24) rfl rfl kd_22 rfl rfl rfl ?_
        refine T_ld 252 (.int (i32 v1)) rfl (fun _ => rfl) ?_
        refine K_iald 253 19 (m.2 19) rfl rfl rfl (by omega) (show v1 < (1090 : Int) by omega) (show (m2.2 19) = (m.2 19) from (fr2 Fm2 19 rfl)) ?_
        have e109 : 0 ≤ m.2 19 v1 ∧ m.2 19 v1 ≤ 1089 := hT.2.1 19 v1
        refine K_lald 254 25 (m2.2 25) rfl rfl rfl (by omega) (show ((m.2 19) v1) < (1090 : Int) by omega) rfl ?_
        have e110 : (-9223372036854775808) ≤ (m2.2 25) ((m.2 19) v1) ∧ (m2.2 25) ((m.2 19) v1) ≤ 9223372036854775807 := (Tm2.2.1 25) ((m.2 19) v1)
        refine T_ld 255 (.ref 22) rfl (fun _ => rfl) ?_
        refine K_gf 258 (.ref 30) rfl rfl kd_22 rfl rfl rfl ?_
        refine T_ld 259 (.ref 22) rfl (fun _ => rfl) ?_
        refine K_gf 262 (.ref 25) rfl rfl kd_22 rfl rfl rfl ?_
        refine T_ld 264 (.int (i32 v1)) rfl (fun _ => rfl) ?_
        refine K_iald 265 20 (m.2 20) rfl rfl rfl (by omega) (show v1 < (1090 : Int) by omega) (show (m2.2 20) = (m.2 20) from (fr2 Fm2 20 rfl)) ?_
        have e111 : 0 ≤ m.2 20 v1 ∧ m.2 20 v1 ≤ 1089 := hT.2.1 20 v1
        refine K_lald 266 25 (m2.2 25) rfl rfl rfl (by omega) (show ((m.2 20) v1) < (1090 : Int) by omega) rfl ?_
        have e112 : (-9223372036854775808) ≤ (m2.2 25) ((m.2 20) v1) ∧ (m2.2 25) ((m.2 20) v1) ≤ 9223372036854775807 := (Tm2.2.1 25) ((m.2 20) v1)
        refine T_ld 267 (.ref 22) rfl (fun _ => rfl) ?_
        refine K_gf 270 (.ref 27) rfl rfl kd_22 rfl rfl rfl ?_
        refine T_ld 272 (.int (i32 v1)) rfl (fun _ => rfl) ?_
        refine K_iald 273 22 (m.2 22) rfl rfl rfl (by omega) (show v1 < (1090 : Int) by omega) (show (m2.2 22) = (m.2 22) from (fr2 Fm2 22 rfl)) ?_
        have e113 : 0 ≤ m.2 22 v1 ∧ m.2 22 v1 ≤ 64 := hT.2.1 22 v1
        refine T_callx 276 184 [.ref 22, .int (i32 ((m.2 18) v1)), .long (i64 ((m2.2 25) ((m.2 19) v1))), .long (i64 ((m2.2 25) ((m.2 20) v1))), .int (i32 ((m.2 22) v1))] [] rfl (fun _ => rfl) rfl rfl (c_nd_reckon w (mO m2 [] []) c N D (by omega) Tm2 ((m.2 18) v1) ((m2.2 25) ((m.2 19) v1)) ((m2.2 25) ((m.2 20) v1)) ((m.2 22) v1) (r32 (by omega) (by omega)) (r64 (by omega) (by omega)) (r64 (by omega) (by omega)) (r32 (by omega) (by omega))) (fun rr114 k115 => ?_)
        obtain ⟨x116, g117, rfl⟩ := k115
        refine Or.inl ⟨_, _, _, _, rfl, ?_⟩
        refine T_ns (st' := [.long (i64 x116)]) rfl ?_
        obtain ⟨g117a, g117b⟩ := g117
        refine T_sto 278 [(6, .long (i64 x116)), (0, .ref 22), (2, .int (i32 b)), (3, .ref (obq (m.2 107) s + (1 + 1))), (4, .ref (obq (m.2 107) d + (5 + 1))), (5, .int (i32 v1))] rfl (fun _ => rfl) ?_
        refine T_ld 279 (.ref 22) rfl (fun _ => rfl) ?_
        refine K_gf 282 (.ref 30) rfl rfl kd_22 rfl rfl rfl ?_
        refine T_ld 284 (.int (i32 v1)) rfl (fun _ => rfl) ?_
        refine T_ld 286 (.long (i64 x116)) rfl (fun _ => rfl) ?_
        refine T_ld 287 (.ref 22) rfl (fun _ => rfl) ?_
        refine K_gf 290 (.ref 27) rfl rfl kd_22 rfl rfl rfl ?_
        refine T_ld 292 (.int (i32 v1)) rfl (fun _ => rfl) ?_
        refine K_iald 293 22 (m.2 22) rfl rfl rfl (by omega) (show v1 < (1090 : Int) by omega) (show (m2.2 22) = (m.2 22) from (fr2 Fm2 22 rfl)) ?_
        have e118 : 0 ≤ m.2 22 v1 ∧ m.2 22 v1 ≤ 64 := hT.2.1 22 v1
        refine T_callx 296 116 [.int (i32 ((m.2 22) v1))] [.long (i64 x116), .int (i32 v1), .ref 30] rfl (fun _ => rfl) rfl rfl (c_pw_ones w (mO m2 [] []) c N D (by omega) Tm2 ((m.2 22) v1) (r32 (by omega) (by omega))) (fun rr119 k120 => ?_)
        obtain ⟨x121, g122, rfl⟩ := k120
        refine Or.inl ⟨_, _, _, _, rfl, ?_⟩
        refine T_ns (st' := [.long (i64 x121), .long (i64 x116), .int (i32 v1), .ref 30]) rfl ?_
        obtain ⟨g122a, g122b⟩ := g122
        refine T_lhv 297 _ rfl (fun _ => rfl) (fun z123 h124 => ?_)
        obtain ⟨h124a, h124b⟩ := h124
        have G125 : ∀ j, (-9223372036854775808) ≤ (upI (m2.2 25) v1 z123) j ∧ (upI (m2.2 25) v1 z123) j ≤ 9223372036854775807 := upI_rg (Tm2.2.1 25) ⟨by omega, by omega⟩
        refine K_last (a' := [(25, upI (m2.2 25) v1 z123)]) 298 25 (m2.2 25) rfl rfl rfl (by omega) (show v1 < (1090 : Int) by omega) rfl rfl ?_
        refine T_iinc 301 [(5, .int (i32 (v1 + 1))), (6, .long (i64 x116)), (0, .ref 22), (2, .int (i32 b)), (3, .ref (obq (m.2 107) s + (1 + 1))), (4, .ref (obq (m.2 107) d + (5 + 1)))] rfl rfl (by decide) rfl rfl ?_
        refine T_goto 3 rfl (fun _ => rfl) ?_
        refine Tm_lv (a := [(0, .ref 22), (2, .int (i32 b)), (3, .ref (obq (m.2 107) s + (1 + 1))), (4, .ref (obq (m.2 107) d + (5 + 1))), (5, .int (i32 (v1 + 1)))]) rfl rfl ⟨rfl, rfl, rfl, rfl, rfl, trivial⟩ ?_
        exact ih11 (v1 + 1) (mO m2 [] [(25, upI (m2.2 25) v1 z123)]) (r32 (by omega) (by omega)) (KTy_mO Tm2 rfl rfl trivial ⟨G125, trivial⟩) (fr_m (fr_s Fm2 (fr_m fr_0 rfl rfl) rfl rfl) rfl rfl) (show 0 ≤ (v1 + 1) by omega) (show (v1 + 1) ≤ 1090 by omega) (show 0 ≤ (v1 + 1) ∧ (v1 + 1) ≤ 1090 by omega) (show 1100 - (v1 + 1) < (n10 : Int) by omega)
  refine Tm_lv (a := [(0, .ref 22), (2, .int (i32 b)), (3, .ref (obq (m.2 107) s + (1 + 1))), (4, .ref (obq (m.2 107) d + (5 + 1))), (5, .int (i32 a))]) rfl rfl ⟨rfl, rfl, rfl, rfl, rfl, trivial⟩ ?_
  exact L3_3 ((1100 - a : Int) + 1).toNat a (mO m [] []) (r32 (by omega) (by omega)) hT (fr_m fr_0 rfl rfl) (show 0 ≤ a by omega) (show a ≤ 1090 by omega) (show 0 ≤ a ∧ a ≤ 1090 by omega) (show 1100 - a < ((((1100 - a : Int) + 1).toNat : Nat) : Int) by omega)
def Q_op_remainder (m : mR) (c : Nat → Option am_C) (N : Nat) (x : Int) (n : Int) : ag_Re af_T → Prop := fun R => (∃ (r : Int), (0 ≤ r ∧ r ≤ 63) ∧ R = (.inl (some (.int (i32 r))), (khp m c, N), 0, 0))
set_option maxHeartbeats 3000000 in
theorem c_op_remainder (w : wX) (m : mR) (c : Nat → Option am_C) (N D : Nat) (hD : 1 ≤ D) (hT : KTy m) (x : Int) (n : Int) (qx : R64 x) (qn : R32 n) (p0 : 0 ≤ n ∧ n ≤ 64) : TC w D 199 [.long (i64 x), .int (i32 n)] (khp m c, N) (Q_op_remainder m c N x n) := by
  obtain ⟨D, rfl⟩ : ∃ k, D = k + 1 := ⟨D - 1, by omega⟩
  obtain ⟨qxa, qxb⟩ := id qx
  obtain ⟨qna, qnb⟩ := id qn
  refine Tc_of rfl ?_
  rw [show (khp m c, N) = (khp (mO m [] []) c, N) from by rw [mO_nil m]]
  show TT w D pm_199 (0, [(0, .long (i64 x)), (2, .int (i32 n))], [], (khp (mO m [] []) c, N), 0, 0) (Q_op_remainder m c N x n)
  refine T_ld 1 (.int (i32 n)) rfl (fun _ => rfl) ?_
  refine T_ld 2 (.int (i32 1)) rfl (fun _ => rfl) ?_
  refine T_icmp 7 5 rfl rfl rfl (r32 (by omega) (by omega)) ⟨by decide, by decide⟩ (fun (h1 : (1 : Int) ≤ n) => ?_) (fun (h1 : ¬ ((1 : Int) ≤ n)) => ?_)
  · skip
    refine T_ld 8 (.long (i64 x)) rfl (fun _ => rfl) ?_
    refine T_ld 9 (.int (i32 1)) rfl (fun _ => rfl) ?_
    refine T_lushr1 10 rfl rfl (fun z2 h3 => ?_)
    obtain ⟨h3a, h3b⟩ := h3
    refine T_ld 11 (.int (i32 n)) rfl (fun _ => rfl) ?_
    refine T_i2l 12 rfl rfl (r32 (by omega) (by omega)) ?_
    refine T_lrem 13 rfl rfl (by omega) (by omega) (by omega) (by omega) ?_
    have hq1 : 0 ≤ (z2 % n) ∧ (z2 % n) < n := ⟨Int.emod_nonneg _ (by omega), Int.emod_lt_of_pos _ (by omega)⟩
    refine T_ld 16 (.long (i64 2)) rfl (fun _ => rfl) ?_
    refine T_lmul 17 rfl rfl ?_
    refine T_ld 18 (.long (i64 x)) rfl (fun _ => rfl) ?_
    refine T_ld 19 (.long (i64 1)) rfl (fun _ => rfl) ?_
    refine T_land 20 rfl rfl (by decide) (by decide) (fun z4 h5 => ?_)
    refine T_ladd 21 rfl rfl ?_
    refine T_ld 22 (.int (i32 n)) rfl (fun _ => rfl) ?_
    refine T_i2l 23 rfl rfl (r32 (by omega) (by omega)) ?_
    refine T_lrem 24 rfl rfl (by omega) (by omega) (by omega) (by omega) ?_
    have hq2 : 0 ≤ ((((z2 % n) * 2) + z4) % n) ∧ ((((z2 % n) * 2) + z4) % n) < n := ⟨Int.emod_nonneg _ (by omega), Int.emod_lt_of_pos _ (by omega)⟩
    refine T_l2i 25 rfl rfl ?_
    refine T_ret rfl (fun _ => rfl) ?_
    exact ⟨(((z2 % n) * 2) + z4) % n, ⟨by omega, by omega⟩, rfl⟩
  · skip
    refine T_ld 6 (.int (i32 0)) rfl (fun _ => rfl) ?_
    refine T_ret rfl (fun _ => rfl) ?_
    exact ⟨0, ⟨by omega, by omega⟩, rfl⟩
def fF_op_put : List Nat := []
def fA_op_put : List Nat := [101]
def Q_op_put (m : mR) (c : Nat → Option am_C) (N : Nat) (u : Int) (s : Int) (v : Int) : ag_Re af_T → Prop := fun R => (∃ (M : mR), KTy M ∧ fr fF_op_put fA_op_put m M ∧ R = (.inl (none), (khp M c, N), 0, 0))
set_option maxHeartbeats 3000000 in
theorem c_op_put (w : wX) (m : mR) (c : Nat → Option am_C) (N D : Nat) (hD : 1 ≤ D) (hT : KTy m) (u : Int) (s : Int) (v : Int) (qu : R32 u) (qs : R32 s) (qv : R64 v) (pOKu : OKr m u) (p1 : 0 ≤ s ∧ s ≤ 220) : TC w D 200 [.ref (obq (m.2 107) u), .int (i32 s), .long (i64 v)] (khp m c, N) (Q_op_put m c N u s v) := by
  obtain ⟨D, rfl⟩ : ∃ k, D = k + 1 := ⟨D - 1, by omega⟩
  obtain ⟨qua, qub⟩ := id qu
  obtain ⟨qsa, qsb⟩ := id qs
  obtain ⟨qva, qvb⟩ := id qv
  refine Tc_of rfl ?_
  rw [show (khp m c, N) = (khp (mO m [] []) c, N) from by rw [mO_nil m]]
  show TT w D pm_200 (0, [(0, .ref (obq (m.2 107) u)), (1, .int (i32 s)), (2, .long (i64 v))], [], (khp (mO m [] []) c, N), 0, 0) (Q_op_put m c N u s v)
  refine T_ld 1 (.int (i32 s)) rfl (fun _ => rfl) ?_
  refine T_ld 4 (.int (i32 204)) rfl (fun _ => rfl) ?_
  refine T_icmp 23 7 rfl rfl rfl (r32 (by omega) (by omega)) ⟨by decide, by decide⟩ (fun (h1 : (204 : Int) ≤ s) => ?_) (fun (h1 : ¬ ((204 : Int) ≤ s)) => ?_)
  · skip
    refine T_ld 24 (.ref (obq (m.2 107) u)) rfl (fun _ => rfl) ?_
    refine K_gor 27 rfl rfl pOKu rfl rfl ?_
    refine T_ld 28 (.int (i32 s)) rfl (fun _ => rfl) ?_
    refine T_ld 29 (.long (i64 v)) rfl (fun _ => rfl) ?_
    have G2 : ∀ j, (-9223372036854775808) ≤ (upI (m.2 101) (65536 * u + s) v) j ∧ (upI (m.2 101) (65536 * u + s) v) j ≤ 9223372036854775807 := upI_rg (hT.2.1 101) ⟨by omega, by omega⟩
    refine K_lasto (a' := [(101, upI (m.2 101) (65536 * u + s) v)]) 30 1 (m.2 101) rfl rfl rfl pOKu (show KTy (mO m [] []) from hT).2.2.1 rfl (by omega) (show s < (221 : Int) by omega) rfl rfl ?_
    refine T_ret rfl (fun _ => rfl) ?_
    exact ⟨(mO m [] [(101, upI (m.2 101) (65536 * u + s) v)]), (KTy_mO hT rfl rfl trivial ⟨G2, trivial⟩), (fr_m fr_0 rfl rfl), rfl⟩
  · skip
    refine T_ld 8 (.ref (obq (m.2 107) u)) rfl (fun _ => rfl) ?_
    refine K_gor 11 rfl rfl pOKu rfl rfl ?_
    refine T_ld 12 (.int (i32 s)) rfl (fun _ => rfl) ?_
    refine T_ld 13 (.int (i32 s)) rfl (fun _ => rfl) ?_
    refine T_ld 15 (.int (i32 17)) rfl (fun _ => rfl) ?_
    refine T_irem 16 rfl rfl (by omega) (by omega) (by omega) (by omega) ?_
    refine T_isub 17 rfl rfl ?_
    refine K_lalo 18 1 (m.2 101) rfl rfl rfl pOKu rfl (by omega) (show (s - (s % 17)) < (221 : Int) by omega) rfl ?_
    have e3 : (-9223372036854775808) ≤ (m.2 101) (65536 * u + (s - (s % 17))) ∧ (m.2 101) (65536 * u + (s - (s % 17))) ≤ 9223372036854775807 := (hT.2.1 101) (65536 * u + (s - (s % 17)))
    refine T_ld 19 (.long (i64 0)) rfl (fun _ => rfl) ?_
    refine T_lcmp 20 rfl rfl (r64 (by omega) (by omega)) ⟨by decide, by decide⟩ (fun z4 h5 => ?_)
    obtain ⟨h5a, h5b, h5c, h5d, h5e⟩ := h5
    refine T_if 30 23 rfl rfl rfl (r32 (by omega) (by omega)) (fun (h6 : z4 = 0) => ?_) (fun (h6 : ¬ (z4 = 0)) => ?_)
    · skip
      have hl7 : (m.2 101) (65536 * u + (s - (s % 17))) = 0 := by omega
      refine T_ret rfl (fun _ => rfl) ?_
      exact ⟨(mO m [] []), hT, (fr_m fr_0 rfl rfl), rfl⟩
    · skip
      have hl8 : (m.2 101) (65536 * u + (s - (s % 17))) ≠ 0 := by omega
      refine T_ld 24 (.ref (obq (m.2 107) u)) rfl (fun _ => rfl) ?_
      refine K_gor 27 rfl rfl pOKu rfl rfl ?_
      refine T_ld 28 (.int (i32 s)) rfl (fun _ => rfl) ?_
      refine T_ld 29 (.long (i64 v)) rfl (fun _ => rfl) ?_
      have G9 : ∀ j, (-9223372036854775808) ≤ (upI (m.2 101) (65536 * u + s) v) j ∧ (upI (m.2 101) (65536 * u + s) v) j ≤ 9223372036854775807 := upI_rg (hT.2.1 101) ⟨by omega, by omega⟩
      refine K_lasto (a' := [(101, upI (m.2 101) (65536 * u + s) v)]) 30 1 (m.2 101) rfl rfl rfl pOKu (show KTy (mO m [] []) from hT).2.2.1 rfl (by omega) (show s < (221 : Int) by omega) rfl rfl ?_
      refine T_ret rfl (fun _ => rfl) ?_
      exact ⟨(mO m [] [(101, upI (m.2 101) (65536 * u + s) v)]), (KTy_mO hT rfl rfl trivial ⟨G9, trivial⟩), (fr_m fr_0 rfl rfl), rfl⟩
def fF_op_takeAway : List Nat := []
def fA_op_takeAway : List Nat := [101]
def Q_op_takeAway (m : mR) (c : Nat → Option am_C) (N : Nat) (u : Int) (s : Int) : ag_Re af_T → Prop := fun R => (∃ (M : mR), KTy M ∧ fr fF_op_takeAway fA_op_takeAway m M ∧ R = (.inl (none), (khp M c, N), 0, 0))
set_option maxHeartbeats 3000000 in
theorem c_op_takeAway (w : wX) (m : mR) (c : Nat → Option am_C) (N D : Nat) (hD : 1 ≤ D) (hT : KTy m) (u : Int) (s : Int) (qu : R32 u) (qs : R32 s) (pOKu : OKr m u) (p1 : 0 ≤ s ∧ s ≤ 187) : TC w D 201 [.ref (obq (m.2 107) u), .int (i32 s)] (khp m c, N) (Q_op_takeAway m c N u s) := by
  obtain ⟨D, rfl⟩ : ∃ k, D = k + 1 := ⟨D - 1, by omega⟩
  obtain ⟨qua, qub⟩ := id qu
  obtain ⟨qsa, qsb⟩ := id qs
  refine Tc_of rfl ?_
  rw [show (khp m c, N) = (khp (mO m [] []) c, N) from by rw [mO_nil m]]
  show TT w D pm_201 (0, [(0, .ref (obq (m.2 107) u)), (1, .int (i32 s))], [], (khp (mO m [] []) c, N), 0, 0) (Q_op_takeAway m c N u s)
  refine T_ld 1 (.int (i32 0)) rfl (fun _ => rfl) ?_
  refine T_sto 2 [(2, .int (i32 0)), (0, .ref (obq (m.2 107) u)), (1, .int (i32 s))] rfl (fun _ => rfl) ?_
  have L2_3 : ∀ (n9 : Nat) (v1 : Int) (m2 : mR), (R32 v1) → KTy m2 → fr [] [101] (mO m [] []) m2 → (0 ≤ v1) → (0 ≤ v1 ∧ v1 ≤ 17) → 20 - v1 < (n9 : Int) → TT w D pm_201 (2, [(0, .ref (obq (m.2 107) u)), (1, .int (i32 s)), (2, .int (i32 v1))], [], (khp (mO m2 [] []) c, N), 0, 0) (Q_op_takeAway m c N u s) := by
    intro n9
    induction n9 with
    | zero =>
      intro v1 m2 q6 Tm2 Fm2 ic4 ic5 hmu
      obtain ⟨q6a, q6b⟩ := id q6
      exfalso
      omega
    | succ n9 ih =>
      intro v1 m2 q6 Tm2 Fm2 ic4 ic5 hmu
      obtain ⟨q6a, q6b⟩ := id q6
      have ih10 := ih
      refine T_ld 3 (.int (i32 v1)) rfl (fun _ => rfl) ?_
      refine T_ld 5 (.int (i32 17)) rfl (fun _ => rfl) ?_
      refine T_icmp 23 8 rfl rfl rfl (r32 (by omega) (by omega)) ⟨by decide, by decide⟩ (fun (h11 : (17 : Int) ≤ v1) => ?_) (fun (h11 : ¬ ((17 : Int) ≤ v1)) => ?_)
      · skip
        refine T_ret rfl (fun _ => rfl) ?_
        exact ⟨(mO m2 [] []), Tm2, (fr_m (fr_s Fm2 (fr_m fr_0 rfl rfl) rfl rfl) rfl rfl), rfl⟩
      · skip
        refine T_ld 9 (.ref (obq (m.2 107) u)) rfl (fun _ => rfl) ?_
        refine K_gor 12 rfl rfl (OKr_c (show (m2.2 107) = (m.2 107) from (fr2 Fm2 107 rfl)) (show (m2.2 108) = (m.2 108) from (fr2 Fm2 108 rfl)) pOKu) (congrArg (fun f : Int → Int => (f u).toNat) (show (m2.2 107) = (m.2 107) from (fr2 Fm2 107 rfl))) rfl ?_
        refine T_ld 13 (.int (i32 s)) rfl (fun _ => rfl) ?_
        refine T_ld 14 (.int (i32 v1)) rfl (fun _ => rfl) ?_
        refine T_iadd 15 rfl rfl ?_
        refine T_ld 16 (.long (i64 0)) rfl (fun _ => rfl) ?_
        have G12 : ∀ j, (-9223372036854775808) ≤ (upI (m2.2 101) (65536 * u + (s + v1)) 0) j ∧ (upI (m2.2 101) (65536 * u + (s + v1)) 0) j ≤ 9223372036854775807 := upI_rg (Tm2.2.1 101) ⟨by omega, by omega⟩
        refine K_lasto (a' := [(101, upI (m2.2 101) (65536 * u + (s + v1)) 0)]) 17 1 (m2.2 101) rfl rfl rfl (OKr_c (show (m2.2 107) = (m.2 107) from (fr2 Fm2 107 rfl)) (show (m2.2 108) = (m.2 108) from (fr2 Fm2 108 rfl)) pOKu) (show KTy (mO m2 [] []) from Tm2).2.2.1 (congrArg (fun f : Int → Int => (f u).toNat) (show (m2.2 107) = (m.2 107) from (fr2 Fm2 107 rfl))) (by omega) (show (s + v1) < (221 : Int) by omega) rfl rfl ?_
        refine T_iinc 20 [(2, .int (i32 (v1 + 1))), (0, .ref (obq (m.2 107) u)), (1, .int (i32 s))] rfl rfl (by decide) rfl rfl ?_
        refine T_goto 2 rfl (fun _ => rfl) ?_
        refine Tm_lv (a := [(0, .ref (obq (m.2 107) u)), (1, .int (i32 s)), (2, .int (i32 (v1 + 1)))]) rfl rfl ⟨rfl, rfl, rfl, trivial⟩ ?_
        exact ih10 (v1 + 1) (mO m2 [] [(101, upI (m2.2 101) (65536 * u + (s + v1)) 0)]) (r32 (by omega) (by omega)) (KTy_mO Tm2 rfl rfl trivial ⟨G12, trivial⟩) (fr_m (fr_s Fm2 (fr_m fr_0 rfl rfl) rfl rfl) rfl rfl) (show 0 ≤ (v1 + 1) by omega) (show 0 ≤ (v1 + 1) ∧ (v1 + 1) ≤ 17 by omega) (show 20 - (v1 + 1) < (n9 : Int) by omega)
  refine Tm_lv (a := [(0, .ref (obq (m.2 107) u)), (1, .int (i32 s)), (2, .int (i32 0))]) rfl rfl ⟨rfl, rfl, rfl, trivial⟩ ?_
  exact L2_3 ((20 - (0 : Int) : Int) + 1).toNat 0 (mO m [] []) ⟨by decide, by decide⟩ hT (fr_m fr_0 rfl rfl) (show 0 ≤ (0 : Int) by omega) (show 0 ≤ (0 : Int) ∧ (0 : Int) ≤ 17 by omega) (show 20 - (0 : Int) < ((((20 - (0 : Int) : Int) + 1).toNat : Nat) : Int) by omega)
def fF_op_doDeed : List Nat := []
def fA_op_doDeed : List Nat := [25, 71, 101]
def Q_op_doDeed (m : mR) (c : Nat → Option am_C) (N : Nat) (u : Int) (d : Int) : ag_Re af_T → Prop := fun R => (∃ (M : mR), KTy M ∧ fr fF_op_doDeed fA_op_doDeed m M ∧ R = (.inl (none), (khp M c, N), 0, 0))
set_option maxHeartbeats 3000000 in
theorem c_op_doDeed (w : wX) (m : mR) (c : Nat → Option am_C) (N D : Nat) (hD : 3 ≤ D) (hT : KTy m) (u : Int) (d : Int) (qu : R32 u) (qd : R32 d) (pOKu : OKr m u) (hNK : NKp (m.2 18) (m.2 19)) (hDE : DEp (m.1 224) (m.2 45) (m.2 46) (m.2 47) (m.2 49)) (p3 : 0 ≤ d ∧ d < (m.1 224)) : TC w D 198 [.ref (obq (m.2 107) u), .ref 12, .int (i32 d), .ref 188] (khp m c, N) (Q_op_doDeed m c N u d) := by
  obtain ⟨D, rfl⟩ : ∃ k, D = k + 1 := ⟨D - 1, by omega⟩
  obtain ⟨qua, qub⟩ := id qu
  obtain ⟨qda, qdb⟩ := id qd
  have f224 : 0 ≤ m.1 224 ∧ m.1 224 ≤ 240 := hT.1 224
  refine Tc_of rfl ?_
  rw [show (khp m c, N) = (khp (mO m [] []) c, N) from by rw [mO_nil m]]
  show TT w D pm_198 (0, [(0, .ref (obq (m.2 107) u)), (1, .ref 12), (2, .int (i32 d)), (3, .ref 188)], [], (khp (mO m [] []) c, N), 0, 0) (Q_op_doDeed m c N u d)
  refine T_ld 1 (.ref 12) rfl (fun _ => rfl) ?_
  refine K_gf 4 (.ref 45) rfl rfl kd_12 rfl rfl rfl ?_
  refine T_sto 6 [(4, .ref 45), (0, .ref (obq (m.2 107) u)), (1, .ref 12), (2, .int (i32 d)), (3, .ref 188)] rfl (fun _ => rfl) ?_
  refine T_ld 7 (.ref 12) rfl (fun _ => rfl) ?_
  refine K_gf 10 (.ref 22) rfl rfl kd_12 rfl rfl rfl ?_
  refine T_sto 12 [(5, .ref 22), (4, .ref 45), (0, .ref (obq (m.2 107) u)), (1, .ref 12), (2, .int (i32 d)), (3, .ref 188)] rfl (fun _ => rfl) ?_
  have hRW := hDE d (by omega) (by omega)
  unfold RWp at hRW
  refine T_ld 14 (.ref 45) rfl (fun _ => rfl) ?_
  refine K_gf 17 (.ref 53) rfl rfl kd_45 rfl rfl rfl ?_
  refine T_ld 18 (.int (i32 d)) rfl (fun _ => rfl) ?_
  refine K_iald 19 46 (m.2 46) rfl rfl rfl (by omega) (show d < (240 : Int) by omega) rfl ?_
  have e1 : (-1) ≤ m.2 46 d ∧ m.2 46 d ≤ 220 := hT.2.1 46 d
  refine T_sto 21 [(6, .int (i32 ((m.2 46) d))), (5, .ref 22), (4, .ref 45), (0, .ref (obq (m.2 107) u)), (1, .ref 12), (2, .int (i32 d)), (3, .ref 188)] rfl (fun _ => rfl) ?_
  refine T_ld 23 (.ref 45) rfl (fun _ => rfl) ?_
  refine K_gf 26 (.ref 54) rfl rfl kd_45 rfl rfl rfl ?_
  refine T_ld 27 (.int (i32 d)) rfl (fun _ => rfl) ?_
  refine K_iald 28 47 (m.2 47) rfl rfl rfl (by omega) (show d < (240 : Int) by omega) rfl ?_
  have e2 : (-1) ≤ m.2 47 d ∧ m.2 47 d ≤ 7 := hT.2.1 47 d
  refine T_sto 30 [(7, .int (i32 ((m.2 47) d))), (6, .int (i32 ((m.2 46) d))), (5, .ref 22), (4, .ref 45), (0, .ref (obq (m.2 107) u)), (1, .ref 12), (2, .int (i32 d)), (3, .ref 188)] rfl (fun _ => rfl) ?_
  refine T_ld 31 (.int (i32 (-1))) rfl (fun _ => rfl) ?_
  refine T_sto 33 [(8, .int (i32 (-1))), (7, .int (i32 ((m.2 47) d))), (6, .int (i32 ((m.2 46) d))), (5, .ref 22), (4, .ref 45), (0, .ref (obq (m.2 107) u)), (1, .ref 12), (2, .int (i32 d)), (3, .ref 188)] rfl (fun _ => rfl) ?_
  refine T_ld 35 (.int (i32 ((m.2 47) d))) rfl (fun _ => rfl) ?_
  refine T_ld 36 (.int (i32 (-1))) rfl (fun _ => rfl) ?_
  refine T_icmp 88 39 rfl rfl rfl (r32 (by omega) (by omega)) ⟨by decide, by decide⟩ (fun (h3 : (m.2 47) d = (-1)) => ?_) (fun (h3 : ¬ ((m.2 47) d = (-1))) => ?_)
  · skip
    refine T_ld 89 (.long (i64 0)) rfl (fun _ => rfl) ?_
    refine T_sto 91 [(9, .long (i64 0)), (8, .int (i32 (-1))), (7, .int (i32 ((m.2 47) d))), (6, .int (i32 ((m.2 46) d))), (5, .ref 22), (4, .ref 45), (0, .ref (obq (m.2 107) u)), (1, .ref 12), (2, .int (i32 d)), (3, .ref 188)] rfl (fun _ => rfl) ?_
    refine T_ld 93 (.ref 45) rfl (fun _ => rfl) ?_
    refine K_gf 96 (.ref 58) rfl rfl kd_45 rfl rfl rfl ?_
    refine T_ld 97 (.int (i32 d)) rfl (fun _ => rfl) ?_
    refine K_iald 98 51 (m.2 51) rfl rfl rfl (by omega) (show d < (240 : Int) by omega) rfl ?_
    have e4 : (-1) ≤ m.2 51 d ∧ m.2 51 d ≤ 1089 := hT.2.1 51 d
    refine T_ld 99 (.int (i32 (-1))) rfl (fun _ => rfl) ?_
    refine T_icmp 131 102 rfl rfl rfl (r32 (by omega) (by omega)) ⟨by decide, by decide⟩ (fun (h5 : (m.2 51) d = (-1)) => ?_) (fun (h5 : ¬ ((m.2 51) d = (-1))) => ?_)
    · skip
      refine T_ld 133 (.ref 45) rfl (fun _ => rfl) ?_
      refine K_gf 136 (.ref 52) rfl rfl kd_45 rfl rfl rfl ?_
      refine T_ld 137 (.int (i32 d)) rfl (fun _ => rfl) ?_
      refine K_iald 138 45 (m.2 45) rfl rfl rfl (by omega) (show d < (240 : Int) by omega) rfl ?_
      have e6 : 0 ≤ m.2 45 d ∧ m.2 45 d ≤ 330 := hT.2.1 45 d
      by_cases h7 : (m.2 45) d = 61
      · skip
        refine T_cast 61 h7 ?_
        refine T_pop 180 rfl (fun _ => rfl) ?_
        refine T_ld 181 (.ref (obq (m.2 107) u)) rfl (fun _ => rfl) ?_
        refine T_ld 183 (.int (i32 ((m.2 46) d))) rfl (fun _ => rfl) ?_
        refine T_ld 185 (.long (i64 0)) rfl (fun _ => rfl) ?_
        refine T_callx 188 200 [.ref (obq (m.2 107) u), .int (i32 ((m.2 46) d)), .long (i64 0)] [] rfl (inv_vt (args := [.long (i64 0), .int (i32 ((m.2 46) d))]) (obe_c rfl (khp_o0 _ pOKu)) rfl rfl rfl) rfl rfl (c_op_put w (mO m [] []) c N D (by omega) hT u ((m.2 46) d) 0 (r32 (by omega) (by omega)) (r32 (by omega) (by omega)) ⟨by decide, by decide⟩ pOKu (show 0 ≤ ((m.2 46) d) ∧ ((m.2 46) d) ≤ 220 by omega)) (fun rr8 k9 => ?_)
        obtain ⟨m10, Tm10, Fm10, rfl⟩ := k9
        refine Or.inl ⟨_, _, _, _, rfl, ?_⟩
        refine K_nb (st' := []) rfl ?_
        refine T_goto 230 rfl (fun _ => rfl) ?_
        refine T_ret rfl (fun _ => rfl) ?_
        exact ⟨(mO m10 [] []), Tm10, (fr_m (fr_s Fm10 (fr_m fr_0 rfl rfl) rfl rfl) rfl rfl), rfl⟩
      by_cases h11 : (m.2 45) d = 325
      · skip
        refine T_cast 325 h11 ?_
        refine T_pop 213 rfl (fun _ => rfl) ?_
        refine T_ld 214 (.ref (obq (m.2 107) u)) rfl (fun _ => rfl) ?_
        refine T_ld 216 (.int (i32 ((m.2 46) d))) rfl (fun _ => rfl) ?_
        refine T_callx 219 201 [.ref (obq (m.2 107) u), .int (i32 ((m.2 46) d))] [] rfl (inv_vt (args := [.int (i32 ((m.2 46) d))]) (obe_c rfl (khp_o0 _ pOKu)) rfl rfl rfl) rfl rfl (c_op_takeAway w (mO m [] []) c N D (by omega) hT u ((m.2 46) d) (r32 (by omega) (by omega)) (r32 (by omega) (by omega)) pOKu (show 0 ≤ ((m.2 46) d) ∧ ((m.2 46) d) ≤ 187 by omega)) (fun rr12 k13 => ?_)
        obtain ⟨m14, Tm14, Fm14, rfl⟩ := k13
        refine Or.inl ⟨_, _, _, _, rfl, ?_⟩
        refine K_nb (st' := []) rfl ?_
        refine T_goto 230 rfl (fun _ => rfl) ?_
        refine T_ret rfl (fun _ => rfl) ?_
        exact ⟨(mO m14 [] []), Tm14, (fr_m (fr_s Fm14 (fr_m fr_0 rfl rfl) rfl rfl) rfl rfl), rfl⟩
      by_cases h15 : (m.2 45) d = 327
      · skip
        refine T_cast 327 h15 ?_
        refine T_pop 191 rfl (fun _ => rfl) ?_
        refine T_ld 192 (.ref (obq (m.2 107) u)) rfl (fun _ => rfl) ?_
        refine T_ld 194 (.int (i32 ((m.2 46) d))) rfl (fun _ => rfl) ?_
        refine T_ld 195 (.ref 188) rfl (fun _ => rfl) ?_
        refine T_ld 197 (.int (i32 (-1))) rfl (fun _ => rfl) ?_
        refine K_lald 198 71 (m.2 71) rfl rfl rfl (by omega) (show (-1) < (512 : Int) by omega) rfl ?_
        have e16 : (-9223372036854775808) ≤ (m.2 71) (-1) ∧ (m.2 71) (-1) ≤ 9223372036854775807 := (hT.2.1 71) (-1)
        refine T_callx 201 200 [.ref (obq (m.2 107) u), .int (i32 ((m.2 46) d)), .long (i64 ((m.2 71) (-1)))] [] rfl (inv_vt (args := [.long (i64 ((m.2 71) (-1))), .int (i32 ((m.2 46) d))]) (obe_c rfl (khp_o0 _ pOKu)) rfl rfl rfl) rfl rfl (c_op_put w (mO m [] []) c N D (by omega) hT u ((m.2 46) d) ((m.2 71) (-1)) (r32 (by omega) (by omega)) (r32 (by omega) (by omega)) (r64 (by omega) (by omega)) pOKu (show 0 ≤ ((m.2 46) d) ∧ ((m.2 46) d) ≤ 220 by omega)) (fun rr17 k18 => ?_)
        obtain ⟨m19, Tm19, Fm19, rfl⟩ := k18
        refine Or.inl ⟨_, _, _, _, rfl, ?_⟩
        refine K_nb (st' := []) rfl ?_
        refine T_goto 230 rfl (fun _ => rfl) ?_
        refine T_ret rfl (fun _ => rfl) ?_
        exact ⟨(mO m19 [] []), Tm19, (fr_m (fr_s Fm19 (fr_m fr_0 rfl rfl) rfl rfl) rfl rfl), rfl⟩
      by_cases h20 : (m.2 45) d = 328
      · skip
        refine T_cast 328 h20 ?_
        refine T_pop 204 rfl (fun _ => rfl) ?_
        refine T_ld 205 (.ref 188) rfl (fun _ => rfl) ?_
        refine T_ld 207 (.int (i32 (-1))) rfl (fun _ => rfl) ?_
        refine T_ld 209 (.long (i64 0)) rfl (fun _ => rfl) ?_
        have G21 : ∀ j, (-9223372036854775808) ≤ (upI (m.2 71) (-1) 0) j ∧ (upI (m.2 71) (-1) 0) j ≤ 9223372036854775807 := upI_rg (hT.2.1 71) ⟨by omega, by omega⟩
        refine K_last (a' := [(71, upI (m.2 71) (-1) 0)]) 210 71 (m.2 71) rfl rfl rfl (by omega) (show (-1) < (512 : Int) by omega) rfl rfl ?_
        refine T_goto 230 rfl (fun _ => rfl) ?_
        refine T_ret rfl (fun _ => rfl) ?_
        exact ⟨(mO m [] [(71, upI (m.2 71) (-1) 0)]), (KTy_mO hT rfl rfl trivial ⟨G21, trivial⟩), (fr_m fr_0 rfl rfl), rfl⟩
      refine T_lkd 222 rfl rfl (r32 (by omega) (by omega)) (by simp [Op.lookupswitch.offset, show ¬ ((61 : Int) = (m.2 45) d) by omega, show ¬ ((325 : Int) = (m.2 45) d) by omega, show ¬ ((327 : Int) = (m.2 45) d) by omega, show ¬ ((328 : Int) = (m.2 45) d) by omega]) ?_
      refine T_ld 223 (.ref (obq (m.2 107) u)) rfl (fun _ => rfl) ?_
      refine K_gor 226 rfl rfl pOKu rfl rfl ?_
      refine T_ld 228 (.int (i32 ((m.2 46) d))) rfl (fun _ => rfl) ?_
      refine T_ld 229 (.long (i64 1)) rfl (fun _ => rfl) ?_
      have G22 : ∀ j, (-9223372036854775808) ≤ (upI (m.2 101) (65536 * u + ((m.2 46) d)) 1) j ∧ (upI (m.2 101) (65536 * u + ((m.2 46) d)) 1) j ≤ 9223372036854775807 := upI_rg (hT.2.1 101) ⟨by omega, by omega⟩
      refine K_lasto (a' := [(101, upI (m.2 101) (65536 * u + ((m.2 46) d)) 1)]) 230 1 (m.2 101) rfl rfl rfl pOKu (show KTy (mO m [] []) from hT).2.2.1 rfl (by omega) (show ((m.2 46) d) < (221 : Int) by omega) rfl rfl ?_
      refine T_ret rfl (fun _ => rfl) ?_
      exact ⟨(mO m [] [(101, upI (m.2 101) (65536 * u + ((m.2 46) d)) 1)]), (KTy_mO hT rfl rfl trivial ⟨G22, trivial⟩), (fr_m fr_0 rfl rfl), rfl⟩
    · skip
      refine T_ld 104 (.ref 22) rfl (fun _ => rfl) ?_
      refine T_ld 106 (.ref 45) rfl (fun _ => rfl) ?_
      refine K_gf 109 (.ref 57) rfl rfl kd_45 rfl rfl rfl ?_
      refine T_ld 110 (.int (i32 d)) rfl (fun _ => rfl) ?_
      refine K_iald 111 50 (m.2 50) rfl rfl rfl (by omega) (show d < (240 : Int) by omega) rfl ?_
      have e23 : 0 ≤ m.2 50 d ∧ m.2 50 d ≤ 1090 := hT.2.1 50 d
      refine T_ld 113 (.ref 45) rfl (fun _ => rfl) ?_
      refine K_gf 116 (.ref 58) rfl rfl kd_45 rfl rfl rfl ?_
      refine T_ld 117 (.int (i32 d)) rfl (fun _ => rfl) ?_
      refine K_iald 118 51 (m.2 51) rfl rfl rfl (by omega) (show d < (240 : Int) by omega) rfl ?_
      have e24 : (-1) ≤ m.2 51 d ∧ m.2 51 d ≤ 1089 := hT.2.1 51 d
      refine T_ld 119 (.ref (obq (m.2 107) u)) rfl (fun _ => rfl) ?_
      refine K_gor 122 rfl rfl pOKu rfl rfl ?_
      refine T_ld 123 (.ref (obq (m.2 107) u)) rfl (fun _ => rfl) ?_
      refine K_gor 126 rfl rfl pOKu rfl rfl ?_
      refine T_callx 129 183 [.ref 22, .int (i32 ((m.2 50) d)), .int (i32 ((m.2 51) d)), .ref (obq (m.2 107) u + (1 + 1)), .ref (obq (m.2 107) u + (5 + 1))] [] rfl (fun _ => rfl) rfl rfl (c_nd_valueOf w (mO m [] []) c N D (by omega) hT ((m.2 50) d) ((m.2 51) d) u u (r32 (by omega) (by omega)) (r32 (by omega) (by omega)) (r32 (by omega) (by omega)) (r32 (by omega) (by omega)) pOKu pOKu (show NKp (m.2 18) (m.2 19) by exact hNK) (show 0 ≤ ((m.2 50) d) ∧ ((m.2 50) d) ≤ 1090 by omega) (show 0 ≤ ((m.2 51) d) ∧ ((m.2 51) d) ≤ 1089 by omega)) (fun rr25 k26 => ?_)
      obtain ⟨m27, vv, Tm27, Fm27, g28, rfl⟩ := k26
      refine Or.inl ⟨_, _, _, _, rfl, ?_⟩
      refine K_nb (st' := [.long (i64 vv)]) rfl ?_
      obtain ⟨g28a, g28b⟩ := g28
      refine T_sto 131 [(9, .long (i64 vv)), (8, .int (i32 (-1))), (7, .int (i32 ((m.2 47) d))), (6, .int (i32 ((m.2 46) d))), (5, .ref 22), (4, .ref 45), (0, .ref (obq (m.2 107) u)), (1, .ref 12), (2, .int (i32 d)), (3, .ref 188)] rfl (fun _ => rfl) ?_
      refine T_ld 133 (.ref 45) rfl (fun _ => rfl) ?_
      refine K_gf 136 (.ref 52) rfl rfl kd_45 rfl rfl rfl ?_
      refine T_ld 137 (.int (i32 d)) rfl (fun _ => rfl) ?_
      refine K_iald 138 45 (m.2 45) rfl rfl rfl (by omega) (show d < (240 : Int) by omega) (show (m27.2 45) = (m.2 45) from (fr2 Fm27 45 rfl)) ?_
      have e29 : 0 ≤ m.2 45 d ∧ m.2 45 d ≤ 330 := hT.2.1 45 d
      by_cases h30 : (m.2 45) d = 61
      · skip
        refine T_cast 61 h30 ?_
        refine T_pop 180 rfl (fun _ => rfl) ?_
        refine T_ld 181 (.ref (obq (m.2 107) u)) rfl (fun _ => rfl) ?_
        refine T_ld 183 (.int (i32 ((m.2 46) d))) rfl (fun _ => rfl) ?_
        refine T_ld 185 (.long (i64 vv)) rfl (fun _ => rfl) ?_
        refine T_callx 188 200 [.ref (obq (m.2 107) u), .int (i32 ((m.2 46) d)), .long (i64 vv)] [] rfl (inv_vt (args := [.long (i64 vv), .int (i32 ((m.2 46) d))]) (obe_c (congrArg (fun f : Int → Int => (f u).toNat) (show (m27.2 107) = (m.2 107) from (fr2 Fm27 107 rfl))) (khp_o0 _ (OKr_c (show (m27.2 107) = (m.2 107) from (fr2 Fm27 107 rfl)) (show (m27.2 108) = (m.2 108) from (fr2 Fm27 108 rfl)) pOKu))) rfl rfl rfl) rfl rfl (TC_cast (fun g9 => [.ref (obq g9 u), .int (i32 ((m.2 46) d)), .long (i64 vv)]) (show (m27.2 107) = (m.2 107) from (fr2 Fm27 107 rfl)) (c_op_put w (mO m27 [] []) c N D (by omega) Tm27 u ((m.2 46) d) vv (r32 (by omega) (by omega)) (r32 (by omega) (by omega)) (r64 (by omega) (by omega)) (OKr_c (show (m27.2 107) = (m.2 107) from (fr2 Fm27 107 rfl)) (show (m27.2 108) = (m.2 108) from (fr2 Fm27 108 rfl)) pOKu) (show 0 ≤ ((m.2 46) d) ∧ ((m.2 46) d) ≤ 220 by omega))) (fun rr31 k32 => ?_)
        obtain ⟨m33, Tm33, Fm33, rfl⟩ := k32
        refine Or.inl ⟨_, _, _, _, rfl, ?_⟩
        refine K_nb (st' := []) rfl ?_
        refine T_goto 230 rfl (fun _ => rfl) ?_
        refine T_ret rfl (fun _ => rfl) ?_
        exact ⟨(mO m33 [] []), Tm33, (fr_m (fr_s Fm33 (fr_m (fr_s Fm27 (fr_m fr_0 rfl rfl) rfl rfl) rfl rfl) rfl rfl) rfl rfl), rfl⟩
      by_cases h34 : (m.2 45) d = 325
      · skip
        refine T_cast 325 h34 ?_
        refine T_pop 213 rfl (fun _ => rfl) ?_
        refine T_ld 214 (.ref (obq (m.2 107) u)) rfl (fun _ => rfl) ?_
        refine T_ld 216 (.int (i32 ((m.2 46) d))) rfl (fun _ => rfl) ?_
        refine T_callx 219 201 [.ref (obq (m.2 107) u), .int (i32 ((m.2 46) d))] [] rfl (inv_vt (args := [.int (i32 ((m.2 46) d))]) (obe_c (congrArg (fun f : Int → Int => (f u).toNat) (show (m27.2 107) = (m.2 107) from (fr2 Fm27 107 rfl))) (khp_o0 _ (OKr_c (show (m27.2 107) = (m.2 107) from (fr2 Fm27 107 rfl)) (show (m27.2 108) = (m.2 108) from (fr2 Fm27 108 rfl)) pOKu))) rfl rfl rfl) rfl rfl (TC_cast (fun g9 => [.ref (obq g9 u), .int (i32 ((m.2 46) d))]) (show (m27.2 107) = (m.2 107) from (fr2 Fm27 107 rfl)) (c_op_takeAway w (mO m27 [] []) c N D (by omega) Tm27 u ((m.2 46) d) (r32 (by omega) (by omega)) (r32 (by omega) (by omega)) (OKr_c (show (m27.2 107) = (m.2 107) from (fr2 Fm27 107 rfl)) (show (m27.2 108) = (m.2 108) from (fr2 Fm27 108 rfl)) pOKu) (show 0 ≤ ((m.2 46) d) ∧ ((m.2 46) d) ≤ 187 by omega))) (fun rr35 k36 => ?_)
        obtain ⟨m37, Tm37, Fm37, rfl⟩ := k36
        refine Or.inl ⟨_, _, _, _, rfl, ?_⟩
        refine K_nb (st' := []) rfl ?_
        refine T_goto 230 rfl (fun _ => rfl) ?_
        refine T_ret rfl (fun _ => rfl) ?_
        exact ⟨(mO m37 [] []), Tm37, (fr_m (fr_s Fm37 (fr_m (fr_s Fm27 (fr_m fr_0 rfl rfl) rfl rfl) rfl rfl) rfl rfl) rfl rfl), rfl⟩
      by_cases h38 : (m.2 45) d = 327
      · skip
        refine T_cast 327 h38 ?_
        refine T_pop 191 rfl (fun _ => rfl) ?_
        refine T_ld 192 (.ref (obq (m.2 107) u)) rfl (fun _ => rfl) ?_
        refine T_ld 194 (.int (i32 ((m.2 46) d))) rfl (fun _ => rfl) ?_
        refine T_ld 195 (.ref 188) rfl (fun _ => rfl) ?_
        refine T_ld 197 (.int (i32 (-1))) rfl (fun _ => rfl) ?_
        refine K_lald 198 71 (m.2 71) rfl rfl rfl (by omega) (show (-1) < (512 : Int) by omega) (show (m27.2 71) = (m.2 71) from (fr2 Fm27 71 rfl)) ?_
        have e39 : (-9223372036854775808) ≤ (m.2 71) (-1) ∧ (m.2 71) (-1) ≤ 9223372036854775807 := (hT.2.1 71) (-1)
        refine T_callx 201 200 [.ref (obq (m.2 107) u), .int (i32 ((m.2 46) d)), .long (i64 ((m.2 71) (-1)))] [] rfl (inv_vt (args := [.long (i64 ((m.2 71) (-1))), .int (i32 ((m.2 46) d))]) (obe_c (congrArg (fun f : Int → Int => (f u).toNat) (show (m27.2 107) = (m.2 107) from (fr2 Fm27 107 rfl))) (khp_o0 _ (OKr_c (show (m27.2 107) = (m.2 107) from (fr2 Fm27 107 rfl)) (show (m27.2 108) = (m.2 108) from (fr2 Fm27 108 rfl)) pOKu))) rfl rfl rfl) rfl rfl (TC_cast (fun g9 => [.ref (obq g9 u), .int (i32 ((m.2 46) d)), .long (i64 ((m.2 71) (-1)))]) (show (m27.2 107) = (m.2 107) from (fr2 Fm27 107 rfl)) (c_op_put w (mO m27 [] []) c N D (by omega) Tm27 u ((m.2 46) d) ((m.2 71) (-1)) (r32 (by omega) (by omega)) (r32 (by omega) (by omega)) (r64 (by omega) (by omega)) (OKr_c (show (m27.2 107) = (m.2 107) from (fr2 Fm27 107 rfl)) (show (m27.2 108) = (m.2 108) from (fr2 Fm27 108 rfl)) pOKu) (show 0 ≤ ((m.2 46) d) ∧ ((m.2 46) d) ≤ 220 by omega))) (fun rr40 k41 => ?_)
        obtain ⟨m42, Tm42, Fm42, rfl⟩ := k41
        refine Or.inl ⟨_, _, _, _, rfl, ?_⟩
        refine K_nb (st' := []) rfl ?_
        refine T_goto 230 rfl (fun _ => rfl) ?_
        refine T_ret rfl (fun _ => rfl) ?_
        exact ⟨(mO m42 [] []), Tm42, (fr_m (fr_s Fm42 (fr_m (fr_s Fm27 (fr_m fr_0 rfl rfl) rfl rfl) rfl rfl) rfl rfl) rfl rfl), rfl⟩
      by_cases h43 : (m.2 45) d = 328
      · skip
        refine T_cast 328 h43 ?_
        refine T_pop 204 rfl (fun _ => rfl) ?_
        refine T_ld 205 (.ref 188) rfl (fun _ => rfl) ?_
        refine T_ld 207 (.int (i32 (-1))) rfl (fun _ => rfl) ?_
        refine T_ld 209 (.long (i64 vv)) rfl (fun _ => rfl) ?_
        have G44 : ∀ j, (-9223372036854775808) ≤ (upI (m.2 71) (-1) vv) j ∧ (upI (m.2 71) (-1) vv) j ≤ 9223372036854775807 := upI_rg (hT.2.1 71) ⟨by omega, by omega⟩
        refine K_last (a' := [(71, upI (m.2 71) (-1) vv)]) 210 71 (m.2 71) rfl rfl rfl (by omega) (show (-1) < (512 : Int) by omega) (show (m27.2 71) = (m.2 71) from (fr2 Fm27 71 rfl)) rfl ?_
        refine T_goto 230 rfl (fun _ => rfl) ?_
        refine T_ret rfl (fun _ => rfl) ?_
        exact ⟨(mO m27 [] [(71, upI (m.2 71) (-1) vv)]), (KTy_mO Tm27 rfl rfl trivial ⟨G44, trivial⟩), (fr_m (fr_s Fm27 (fr_m fr_0 rfl rfl) rfl rfl) rfl rfl), rfl⟩
      refine T_lkd 222 rfl rfl (r32 (by omega) (by omega)) (by simp [Op.lookupswitch.offset, show ¬ ((61 : Int) = (m.2 45) d) by omega, show ¬ ((325 : Int) = (m.2 45) d) by omega, show ¬ ((327 : Int) = (m.2 45) d) by omega, show ¬ ((328 : Int) = (m.2 45) d) by omega]) ?_
      refine T_ld 223 (.ref (obq (m.2 107) u)) rfl (fun _ => rfl) ?_
      refine K_gor 226 rfl rfl (OKr_c (show (m27.2 107) = (m.2 107) from (fr2 Fm27 107 rfl)) (show (m27.2 108) = (m.2 108) from (fr2 Fm27 108 rfl)) pOKu) (congrArg (fun f : Int → Int => (f u).toNat) (show (m27.2 107) = (m.2 107) from (fr2 Fm27 107 rfl))) rfl ?_
      refine T_ld 228 (.int (i32 ((m.2 46) d))) rfl (fun _ => rfl) ?_
      refine T_ld 229 (.long (i64 1)) rfl (fun _ => rfl) ?_
      have G45 : ∀ j, (-9223372036854775808) ≤ (upI (m.2 101) (65536 * u + ((m.2 46) d)) 1) j ∧ (upI (m.2 101) (65536 * u + ((m.2 46) d)) 1) j ≤ 9223372036854775807 := upI_rg (hT.2.1 101) ⟨by omega, by omega⟩
      refine K_lasto (a' := [(101, upI (m.2 101) (65536 * u + ((m.2 46) d)) 1)]) 230 1 (m.2 101) rfl rfl rfl (OKr_c (show (m27.2 107) = (m.2 107) from (fr2 Fm27 107 rfl)) (show (m27.2 108) = (m.2 108) from (fr2 Fm27 108 rfl)) pOKu) (show KTy (mO m27 [] []) from Tm27).2.2.1 (congrArg (fun f : Int → Int => (f u).toNat) (show (m27.2 107) = (m.2 107) from (fr2 Fm27 107 rfl))) (by omega) (show ((m.2 46) d) < (221 : Int) by omega) (show (m27.2 101) = (m.2 101) from (fr2 Fm27 101 rfl)) rfl ?_
      refine T_ret rfl (fun _ => rfl) ?_
      exact ⟨(mO m27 [] [(101, upI (m.2 101) (65536 * u + ((m.2 46) d)) 1)]), (KTy_mO Tm27 rfl rfl trivial ⟨G45, trivial⟩), (fr_m (fr_s Fm27 (fr_m fr_0 rfl rfl) rfl rfl) rfl rfl), rfl⟩
  · skip
    refine T_ld 41 (.ref 22) rfl (fun _ => rfl) ?_
    refine T_ld 43 (.ref 45) rfl (fun _ => rfl) ?_
    refine K_gf 46 (.ref 55) rfl rfl kd_45 rfl rfl rfl ?_
    refine T_ld 47 (.int (i32 d)) rfl (fun _ => rfl) ?_
    refine K_iald 48 48 (m.2 48) rfl rfl rfl (by omega) (show d < (240 : Int) by omega) rfl ?_
    have e46 : 0 ≤ m.2 48 d ∧ m.2 48 d ≤ 1090 := hT.2.1 48 d
    refine T_ld 50 (.ref 45) rfl (fun _ => rfl) ?_
    refine K_gf 53 (.ref 56) rfl rfl kd_45 rfl rfl rfl ?_
    refine T_ld 54 (.int (i32 d)) rfl (fun _ => rfl) ?_
    refine K_iald 55 49 (m.2 49) rfl rfl rfl (by omega) (show d < (240 : Int) by omega) rfl ?_
    have e47 : (-1) ≤ m.2 49 d ∧ m.2 49 d ≤ 1089 := hT.2.1 49 d
    refine T_ld 56 (.ref (obq (m.2 107) u)) rfl (fun _ => rfl) ?_
    refine K_gor 59 rfl rfl pOKu rfl rfl ?_
    refine T_ld 60 (.ref (obq (m.2 107) u)) rfl (fun _ => rfl) ?_
    refine K_gor 63 rfl rfl pOKu rfl rfl ?_
    refine T_callx 66 183 [.ref 22, .int (i32 ((m.2 48) d)), .int (i32 ((m.2 49) d)), .ref (obq (m.2 107) u + (1 + 1)), .ref (obq (m.2 107) u + (5 + 1))] [] rfl (fun _ => rfl) rfl rfl (c_nd_valueOf w (mO m [] []) c N D (by omega) hT ((m.2 48) d) ((m.2 49) d) u u (r32 (by omega) (by omega)) (r32 (by omega) (by omega)) (r32 (by omega) (by omega)) (r32 (by omega) (by omega)) pOKu pOKu (show NKp (m.2 18) (m.2 19) by exact hNK) (show 0 ≤ ((m.2 48) d) ∧ ((m.2 48) d) ≤ 1090 by omega) (show 0 ≤ ((m.2 49) d) ∧ ((m.2 49) d) ≤ 1089 by omega)) (fun rr48 k49 => ?_)
    obtain ⟨m50, vv, Tm50, Fm50, g51, rfl⟩ := k49
    refine Or.inl ⟨_, _, _, _, rfl, ?_⟩
    refine K_nb (st' := [.long (i64 vv)]) rfl ?_
    obtain ⟨g51a, g51b⟩ := g51
    refine T_sto 68 [(9, .long (i64 vv)), (8, .int (i32 (-1))), (7, .int (i32 ((m.2 47) d))), (6, .int (i32 ((m.2 46) d))), (5, .ref 22), (4, .ref 45), (0, .ref (obq (m.2 107) u)), (1, .ref 12), (2, .int (i32 d)), (3, .ref 188)] rfl (fun _ => rfl) ?_
    refine T_ld 70 (.int (i32 ((m.2 47) d))) rfl (fun _ => rfl) ?_
    refine T_ld 72 (.int (i32 64)) rfl (fun _ => rfl) ?_
    refine T_imul 73 rfl rfl ?_
    refine T_ld 75 (.long (i64 vv)) rfl (fun _ => rfl) ?_
    refine T_ld 76 (.ref 12) rfl (fun _ => rfl) ?_
    refine K_gf 79 (.ref 19) rfl rfl kd_12 rfl rfl rfl ?_
    refine T_ld 81 (.int (i32 ((m.2 47) d))) rfl (fun _ => rfl) ?_
    refine K_iald 82 16 (m.2 16) rfl rfl rfl (by omega) (show ((m.2 47) d) < (8 : Int) by omega) (show (m50.2 16) = (m.2 16) from (fr2 Fm50 16 rfl)) ?_
    have e52 : 0 ≤ m.2 16 ((m.2 47) d) ∧ m.2 16 ((m.2 47) d) ≤ 64 := hT.2.1 16 ((m.2 47) d)
    refine T_callx 85 199 [.long (i64 vv), .int (i32 ((m.2 16) ((m.2 47) d)))] [.int (i32 (((m.2 47) d) * 64))] rfl (fun _ => rfl) rfl rfl (c_op_remainder w (mO m50 [] []) c N D (by omega) Tm50 vv ((m.2 16) ((m.2 47) d)) (r64 (by omega) (by omega)) (r32 (by omega) (by omega)) (show 0 ≤ ((m.2 16) ((m.2 47) d)) ∧ ((m.2 16) ((m.2 47) d)) ≤ 64 by omega)) (fun rr53 k54 => ?_)
    obtain ⟨x55, g56, rfl⟩ := k54
    refine Or.inl ⟨_, _, _, _, rfl, ?_⟩
    refine T_ns (st' := [.int (i32 x55), .int (i32 (((m.2 47) d) * 64))]) rfl ?_
    obtain ⟨g56a, g56b⟩ := g56
    refine T_iadd 86 rfl rfl ?_
    refine T_sto 88 [(8, .int (i32 ((((m.2 47) d) * 64) + x55))), (9, .long (i64 vv)), (7, .int (i32 ((m.2 47) d))), (6, .int (i32 ((m.2 46) d))), (5, .ref 22), (4, .ref 45), (0, .ref (obq (m.2 107) u)), (1, .ref 12), (2, .int (i32 d)), (3, .ref 188)] rfl (fun _ => rfl) ?_
    refine T_ld 89 (.long (i64 0)) rfl (fun _ => rfl) ?_
    refine T_sto 91 [(9, .long (i64 0)), (8, .int (i32 ((((m.2 47) d) * 64) + x55))), (7, .int (i32 ((m.2 47) d))), (6, .int (i32 ((m.2 46) d))), (5, .ref 22), (4, .ref 45), (0, .ref (obq (m.2 107) u)), (1, .ref 12), (2, .int (i32 d)), (3, .ref 188)] rfl (fun _ => rfl) ?_
    refine T_ld 93 (.ref 45) rfl (fun _ => rfl) ?_
    refine K_gf 96 (.ref 58) rfl rfl kd_45 rfl rfl rfl ?_
    refine T_ld 97 (.int (i32 d)) rfl (fun _ => rfl) ?_
    refine K_iald 98 51 (m.2 51) rfl rfl rfl (by omega) (show d < (240 : Int) by omega) (show (m50.2 51) = (m.2 51) from (fr2 Fm50 51 rfl)) ?_
    have e57 : (-1) ≤ m.2 51 d ∧ m.2 51 d ≤ 1089 := hT.2.1 51 d
    refine T_ld 99 (.int (i32 (-1))) rfl (fun _ => rfl) ?_
    refine T_icmp 131 102 rfl rfl rfl (r32 (by omega) (by omega)) ⟨by decide, by decide⟩ (fun (h58 : (m.2 51) d = (-1)) => ?_) (fun (h58 : ¬ ((m.2 51) d = (-1))) => ?_)
    · skip
      refine T_ld 133 (.ref 45) rfl (fun _ => rfl) ?_
      refine K_gf 136 (.ref 52) rfl rfl kd_45 rfl rfl rfl ?_
      refine T_ld 137 (.int (i32 d)) rfl (fun _ => rfl) ?_
      refine K_iald 138 45 (m.2 45) rfl rfl rfl (by omega) (show d < (240 : Int) by omega) (show (m50.2 45) = (m.2 45) from (fr2 Fm50 45 rfl)) ?_
      have e59 : 0 ≤ m.2 45 d ∧ m.2 45 d ≤ 330 := hT.2.1 45 d
      by_cases h60 : (m.2 45) d = 61
      · skip
        refine T_cast 61 h60 ?_
        refine T_pop 180 rfl (fun _ => rfl) ?_
        refine T_ld 181 (.ref (obq (m.2 107) u)) rfl (fun _ => rfl) ?_
        refine T_ld 183 (.int (i32 ((m.2 46) d))) rfl (fun _ => rfl) ?_
        refine T_ld 185 (.long (i64 0)) rfl (fun _ => rfl) ?_
        refine T_callx 188 200 [.ref (obq (m.2 107) u), .int (i32 ((m.2 46) d)), .long (i64 0)] [] rfl (inv_vt (args := [.long (i64 0), .int (i32 ((m.2 46) d))]) (obe_c (congrArg (fun f : Int → Int => (f u).toNat) (show (m50.2 107) = (m.2 107) from (fr2 Fm50 107 rfl))) (khp_o0 _ (OKr_c (show (m50.2 107) = (m.2 107) from (fr2 Fm50 107 rfl)) (show (m50.2 108) = (m.2 108) from (fr2 Fm50 108 rfl)) pOKu))) rfl rfl rfl) rfl rfl (TC_cast (fun g9 => [.ref (obq g9 u), .int (i32 ((m.2 46) d)), .long (i64 0)]) (show (m50.2 107) = (m.2 107) from (fr2 Fm50 107 rfl)) (c_op_put w (mO m50 [] []) c N D (by omega) Tm50 u ((m.2 46) d) 0 (r32 (by omega) (by omega)) (r32 (by omega) (by omega)) ⟨by decide, by decide⟩ (OKr_c (show (m50.2 107) = (m.2 107) from (fr2 Fm50 107 rfl)) (show (m50.2 108) = (m.2 108) from (fr2 Fm50 108 rfl)) pOKu) (show 0 ≤ ((m.2 46) d) ∧ ((m.2 46) d) ≤ 220 by omega))) (fun rr61 k62 => ?_)
        obtain ⟨m63, Tm63, Fm63, rfl⟩ := k62
        refine Or.inl ⟨_, _, _, _, rfl, ?_⟩
        refine K_nb (st' := []) rfl ?_
        refine T_goto 230 rfl (fun _ => rfl) ?_
        refine T_ret rfl (fun _ => rfl) ?_
        exact ⟨(mO m63 [] []), Tm63, (fr_m (fr_s Fm63 (fr_m (fr_s Fm50 (fr_m fr_0 rfl rfl) rfl rfl) rfl rfl) rfl rfl) rfl rfl), rfl⟩
      by_cases h64 : (m.2 45) d = 325
      · skip
        refine T_cast 325 h64 ?_
        refine T_pop 213 rfl (fun _ => rfl) ?_
        refine T_ld 214 (.ref (obq (m.2 107) u)) rfl (fun _ => rfl) ?_
        refine T_ld 216 (.int (i32 ((m.2 46) d))) rfl (fun _ => rfl) ?_
        refine T_callx 219 201 [.ref (obq (m.2 107) u), .int (i32 ((m.2 46) d))] [] rfl (inv_vt (args := [.int (i32 ((m.2 46) d))]) (obe_c (congrArg (fun f : Int → Int => (f u).toNat) (show (m50.2 107) = (m.2 107) from (fr2 Fm50 107 rfl))) (khp_o0 _ (OKr_c (show (m50.2 107) = (m.2 107) from (fr2 Fm50 107 rfl)) (show (m50.2 108) = (m.2 108) from (fr2 Fm50 108 rfl)) pOKu))) rfl rfl rfl) rfl rfl (TC_cast (fun g9 => [.ref (obq g9 u), .int (i32 ((m.2 46) d))]) (show (m50.2 107) = (m.2 107) from (fr2 Fm50 107 rfl)) (c_op_takeAway w (mO m50 [] []) c N D (by omega) Tm50 u ((m.2 46) d) (r32 (by omega) (by omega)) (r32 (by omega) (by omega)) (OKr_c (show (m50.2 107) = (m.2 107) from (fr2 Fm50 107 rfl)) (show (m50.2 108) = (m.2 108) from (fr2 Fm50 108 rfl)) pOKu) (show 0 ≤ ((m.2 46) d) ∧ ((m.2 46) d) ≤ 187 by omega))) (fun rr65 k66 => ?_)
        obtain ⟨m67, Tm67, Fm67, rfl⟩ := k66
        refine Or.inl ⟨_, _, _, _, rfl, ?_⟩
        refine K_nb (st' := []) rfl ?_
        refine T_goto 230 rfl (fun _ => rfl) ?_
        refine T_ret rfl (fun _ => rfl) ?_
        exact ⟨(mO m67 [] []), Tm67, (fr_m (fr_s Fm67 (fr_m (fr_s Fm50 (fr_m fr_0 rfl rfl) rfl rfl) rfl rfl) rfl rfl) rfl rfl), rfl⟩
      by_cases h68 : (m.2 45) d = 327
      · skip
        refine T_cast 327 h68 ?_
        refine T_pop 191 rfl (fun _ => rfl) ?_
        refine T_ld 192 (.ref (obq (m.2 107) u)) rfl (fun _ => rfl) ?_
        refine T_ld 194 (.int (i32 ((m.2 46) d))) rfl (fun _ => rfl) ?_
        refine T_ld 195 (.ref 188) rfl (fun _ => rfl) ?_
        refine T_ld 197 (.int (i32 ((((m.2 47) d) * 64) + x55))) rfl (fun _ => rfl) ?_
        refine K_lald 198 71 (m.2 71) rfl rfl rfl (by omega) (show ((((m.2 47) d) * 64) + x55) < (512 : Int) by omega) (show (m50.2 71) = (m.2 71) from (fr2 Fm50 71 rfl)) ?_
        have e69 : (-9223372036854775808) ≤ (m.2 71) ((((m.2 47) d) * 64) + x55) ∧ (m.2 71) ((((m.2 47) d) * 64) + x55) ≤ 9223372036854775807 := (hT.2.1 71) ((((m.2 47) d) * 64) + x55)
        refine T_callx 201 200 [.ref (obq (m.2 107) u), .int (i32 ((m.2 46) d)), .long (i64 ((m.2 71) ((((m.2 47) d) * 64) + x55)))] [] rfl (inv_vt (args := [.long (i64 ((m.2 71) ((((m.2 47) d) * 64) + x55))), .int (i32 ((m.2 46) d))]) (obe_c (congrArg (fun f : Int → Int => (f u).toNat) (show (m50.2 107) = (m.2 107) from (fr2 Fm50 107 rfl))) (khp_o0 _ (OKr_c (show (m50.2 107) = (m.2 107) from (fr2 Fm50 107 rfl)) (show (m50.2 108) = (m.2 108) from (fr2 Fm50 108 rfl)) pOKu))) rfl rfl rfl) rfl rfl (TC_cast (fun g9 => [.ref (obq g9 u), .int (i32 ((m.2 46) d)), .long (i64 ((m.2 71) ((((m.2 47) d) * 64) + x55)))]) (show (m50.2 107) = (m.2 107) from (fr2 Fm50 107 rfl)) (c_op_put w (mO m50 [] []) c N D (by omega) Tm50 u ((m.2 46) d) ((m.2 71) ((((m.2 47) d) * 64) + x55)) (r32 (by omega) (by omega)) (r32 (by omega) (by omega)) (r64 (by omega) (by omega)) (OKr_c (show (m50.2 107) = (m.2 107) from (fr2 Fm50 107 rfl)) (show (m50.2 108) = (m.2 108) from (fr2 Fm50 108 rfl)) pOKu) (show 0 ≤ ((m.2 46) d) ∧ ((m.2 46) d) ≤ 220 by omega))) (fun rr70 k71 => ?_)
        obtain ⟨m72, Tm72, Fm72, rfl⟩ := k71
        refine Or.inl ⟨_, _, _, _, rfl, ?_⟩
        refine K_nb (st' := []) rfl ?_
        refine T_goto 230 rfl (fun _ => rfl) ?_
        refine T_ret rfl (fun _ => rfl) ?_
        exact ⟨(mO m72 [] []), Tm72, (fr_m (fr_s Fm72 (fr_m (fr_s Fm50 (fr_m fr_0 rfl rfl) rfl rfl) rfl rfl) rfl rfl) rfl rfl), rfl⟩
      by_cases h73 : (m.2 45) d = 328
      · skip
        refine T_cast 328 h73 ?_
        refine T_pop 204 rfl (fun _ => rfl) ?_
        refine T_ld 205 (.ref 188) rfl (fun _ => rfl) ?_
        refine T_ld 207 (.int (i32 ((((m.2 47) d) * 64) + x55))) rfl (fun _ => rfl) ?_
        refine T_ld 209 (.long (i64 0)) rfl (fun _ => rfl) ?_
        have G74 : ∀ j, (-9223372036854775808) ≤ (upI (m.2 71) ((((m.2 47) d) * 64) + x55) 0) j ∧ (upI (m.2 71) ((((m.2 47) d) * 64) + x55) 0) j ≤ 9223372036854775807 := upI_rg (hT.2.1 71) ⟨by omega, by omega⟩
        refine K_last (a' := [(71, upI (m.2 71) ((((m.2 47) d) * 64) + x55) 0)]) 210 71 (m.2 71) rfl rfl rfl (by omega) (show ((((m.2 47) d) * 64) + x55) < (512 : Int) by omega) (show (m50.2 71) = (m.2 71) from (fr2 Fm50 71 rfl)) rfl ?_
        refine T_goto 230 rfl (fun _ => rfl) ?_
        refine T_ret rfl (fun _ => rfl) ?_
        exact ⟨(mO m50 [] [(71, upI (m.2 71) ((((m.2 47) d) * 64) + x55) 0)]), (KTy_mO Tm50 rfl rfl trivial ⟨G74, trivial⟩), (fr_m (fr_s Fm50 (fr_m fr_0 rfl rfl) rfl rfl) rfl rfl), rfl⟩
      refine T_lkd 222 rfl rfl (r32 (by omega) (by omega)) (by simp [Op.lookupswitch.offset, show ¬ ((61 : Int) = (m.2 45) d) by omega, show ¬ ((325 : Int) = (m.2 45) d) by omega, show ¬ ((327 : Int) = (m.2 45) d) by omega, show ¬ ((328 : Int) = (m.2 45) d) by omega]) ?_
      refine T_ld 223 (.ref (obq (m.2 107) u)) rfl (fun _ => rfl) ?_
      refine K_gor 226 rfl rfl (OKr_c (show (m50.2 107) = (m.2 107) from (fr2 Fm50 107 rfl)) (show (m50.2 108) = (m.2 108) from (fr2 Fm50 108 rfl)) pOKu) (congrArg (fun f : Int → Int => (f u).toNat) (show (m50.2 107) = (m.2 107) from (fr2 Fm50 107 rfl))) rfl ?_
      refine T_ld 228 (.int (i32 ((m.2 46) d))) rfl (fun _ => rfl) ?_
      refine T_ld 229 (.long (i64 1)) rfl (fun _ => rfl) ?_
      have G75 : ∀ j, (-9223372036854775808) ≤ (upI (m.2 101) (65536 * u + ((m.2 46) d)) 1) j ∧ (upI (m.2 101) (65536 * u + ((m.2 46) d)) 1) j ≤ 9223372036854775807 := upI_rg (hT.2.1 101) ⟨by omega, by omega⟩
      refine K_lasto (a' := [(101, upI (m.2 101) (65536 * u + ((m.2 46) d)) 1)]) 230 1 (m.2 101) rfl rfl rfl (OKr_c (show (m50.2 107) = (m.2 107) from (fr2 Fm50 107 rfl)) (show (m50.2 108) = (m.2 108) from (fr2 Fm50 108 rfl)) pOKu) (show KTy (mO m50 [] []) from Tm50).2.2.1 (congrArg (fun f : Int → Int => (f u).toNat) (show (m50.2 107) = (m.2 107) from (fr2 Fm50 107 rfl))) (by omega) (show ((m.2 46) d) < (221 : Int) by omega) (show (m50.2 101) = (m.2 101) from (fr2 Fm50 101 rfl)) rfl ?_
      refine T_ret rfl (fun _ => rfl) ?_
      exact ⟨(mO m50 [] [(101, upI (m.2 101) (65536 * u + ((m.2 46) d)) 1)]), (KTy_mO Tm50 rfl rfl trivial ⟨G75, trivial⟩), (fr_m (fr_s Fm50 (fr_m fr_0 rfl rfl) rfl rfl) rfl rfl), rfl⟩
    · skip
      refine T_ld 104 (.ref 22) rfl (fun _ => rfl) ?_
      refine T_ld 106 (.ref 45) rfl (fun _ => rfl) ?_
      refine K_gf 109 (.ref 57) rfl rfl kd_45 rfl rfl rfl ?_
      refine T_ld 110 (.int (i32 d)) rfl (fun _ => rfl) ?_
      refine K_iald 111 50 (m.2 50) rfl rfl rfl (by omega) (show d < (240 : Int) by omega) (show (m50.2 50) = (m.2 50) from (fr2 Fm50 50 rfl)) ?_
      have e76 : 0 ≤ m.2 50 d ∧ m.2 50 d ≤ 1090 := hT.2.1 50 d
      refine T_ld 113 (.ref 45) rfl (fun _ => rfl) ?_
      refine K_gf 116 (.ref 58) rfl rfl kd_45 rfl rfl rfl ?_
      refine T_ld 117 (.int (i32 d)) rfl (fun _ => rfl) ?_
      refine K_iald 118 51 (m.2 51) rfl rfl rfl (by omega) (show d < (240 : Int) by omega) (show (m50.2 51) = (m.2 51) from (fr2 Fm50 51 rfl)) ?_
      have e77 : (-1) ≤ m.2 51 d ∧ m.2 51 d ≤ 1089 := hT.2.1 51 d
      refine T_ld 119 (.ref (obq (m.2 107) u)) rfl (fun _ => rfl) ?_
      refine K_gor 122 rfl rfl (OKr_c (show (m50.2 107) = (m.2 107) from (fr2 Fm50 107 rfl)) (show (m50.2 108) = (m.2 108) from (fr2 Fm50 108 rfl)) pOKu) (congrArg (fun f : Int → Int => (f u).toNat) (show (m50.2 107) = (m.2 107) from (fr2 Fm50 107 rfl))) rfl ?_
      refine T_ld 123 (.ref (obq (m.2 107) u)) rfl (fun _ => rfl) ?_
      refine K_gor 126 rfl rfl (OKr_c (show (m50.2 107) = (m.2 107) from (fr2 Fm50 107 rfl)) (show (m50.2 108) = (m.2 108) from (fr2 Fm50 108 rfl)) pOKu) (congrArg (fun f : Int → Int => (f u).toNat) (show (m50.2 107) = (m.2 107) from (fr2 Fm50 107 rfl))) rfl ?_
      refine T_callx 129 183 [.ref 22, .int (i32 ((m.2 50) d)), .int (i32 ((m.2 51) d)), .ref (obq (m.2 107) u + (1 + 1)), .ref (obq (m.2 107) u + (5 + 1))] [] rfl (fun _ => rfl) rfl rfl (TC_cast (fun g9 => [.ref 22, .int (i32 ((m.2 50) d)), .int (i32 ((m.2 51) d)), .ref (obq g9 u + (1 + 1)), .ref (obq g9 u + (5 + 1))]) (show (m50.2 107) = (m.2 107) from (fr2 Fm50 107 rfl)) (c_nd_valueOf w (mO m50 [] []) c N D (by omega) Tm50 ((m.2 50) d) ((m.2 51) d) u u (r32 (by omega) (by omega)) (r32 (by omega) (by omega)) (r32 (by omega) (by omega)) (r32 (by omega) (by omega)) (OKr_c (show (m50.2 107) = (m.2 107) from (fr2 Fm50 107 rfl)) (show (m50.2 108) = (m.2 108) from (fr2 Fm50 108 rfl)) pOKu) (OKr_c (show (m50.2 107) = (m.2 107) from (fr2 Fm50 107 rfl)) (show (m50.2 108) = (m.2 108) from (fr2 Fm50 108 rfl)) pOKu) (show NKp (m50.2 18) (m50.2 19) by rewrite [(show (m50.2 18) = (m.2 18) from (fr2 Fm50 18 rfl)), (show (m50.2 19) = (m.2 19) from (fr2 Fm50 19 rfl))]; exact hNK) (show 0 ≤ ((m.2 50) d) ∧ ((m.2 50) d) ≤ 1090 by omega) (show 0 ≤ ((m.2 51) d) ∧ ((m.2 51) d) ≤ 1089 by omega))) (fun rr78 k79 => ?_)
      obtain ⟨m80, vv81, Tm80, Fm80, g82, rfl⟩ := k79
      refine Or.inl ⟨_, _, _, _, rfl, ?_⟩
      refine K_nb (st' := [.long (i64 vv81)]) rfl ?_
      obtain ⟨g82a, g82b⟩ := g82
      refine T_sto 131 [(9, .long (i64 vv81)), (8, .int (i32 ((((m.2 47) d) * 64) + x55))), (7, .int (i32 ((m.2 47) d))), (6, .int (i32 ((m.2 46) d))), (5, .ref 22), (4, .ref 45), (0, .ref (obq (m.2 107) u)), (1, .ref 12), (2, .int (i32 d)), (3, .ref 188)] rfl (fun _ => rfl) ?_
      refine T_ld 133 (.ref 45) rfl (fun _ => rfl) ?_
      refine K_gf 136 (.ref 52) rfl rfl kd_45 rfl rfl rfl ?_
      refine T_ld 137 (.int (i32 d)) rfl (fun _ => rfl) ?_
      refine K_iald 138 45 (m.2 45) rfl rfl rfl (by omega) (show d < (240 : Int) by omega) (show (m80.2 45) = (m.2 45) from ((fr2 Fm80 45 rfl).trans (fr2 Fm50 45 rfl))) ?_
      have e83 : 0 ≤ m.2 45 d ∧ m.2 45 d ≤ 330 := hT.2.1 45 d
      by_cases h84 : (m.2 45) d = 61
      · skip
        refine T_cast 61 h84 ?_
        refine T_pop 180 rfl (fun _ => rfl) ?_
        refine T_ld 181 (.ref (obq (m.2 107) u)) rfl (fun _ => rfl) ?_
        refine T_ld 183 (.int (i32 ((m.2 46) d))) rfl (fun _ => rfl) ?_
        refine T_ld 185 (.long (i64 vv81)) rfl (fun _ => rfl) ?_
        refine T_callx 188 200 [.ref (obq (m.2 107) u), .int (i32 ((m.2 46) d)), .long (i64 vv81)] [] rfl (inv_vt (args := [.long (i64 vv81), .int (i32 ((m.2 46) d))]) (obe_c (congrArg (fun f : Int → Int => (f u).toNat) (show (m80.2 107) = (m.2 107) from ((fr2 Fm80 107 rfl).trans (fr2 Fm50 107 rfl)))) (khp_o0 _ (OKr_c (show (m80.2 107) = (m.2 107) from ((fr2 Fm80 107 rfl).trans (fr2 Fm50 107 rfl))) (show (m80.2 108) = (m.2 108) from ((fr2 Fm80 108 rfl).trans (fr2 Fm50 108 rfl))) pOKu))) rfl rfl rfl) rfl rfl (TC_cast (fun g9 => [.ref (obq g9 u), .int (i32 ((m.2 46) d)), .long (i64 vv81)]) (show (m80.2 107) = (m.2 107) from ((fr2 Fm80 107 rfl).trans (fr2 Fm50 107 rfl))) (c_op_put w (mO m80 [] []) c N D (by omega) Tm80 u ((m.2 46) d) vv81 (r32 (by omega) (by omega)) (r32 (by omega) (by omega)) (r64 (by omega) (by omega)) (OKr_c (show (m80.2 107) = (m.2 107) from ((fr2 Fm80 107 rfl).trans (fr2 Fm50 107 rfl))) (show (m80.2 108) = (m.2 108) from ((fr2 Fm80 108 rfl).trans (fr2 Fm50 108 rfl))) pOKu) (show 0 ≤ ((m.2 46) d) ∧ ((m.2 46) d) ≤ 220 by omega))) (fun rr85 k86 => ?_)
        obtain ⟨m87, Tm87, Fm87, rfl⟩ := k86
        refine Or.inl ⟨_, _, _, _, rfl, ?_⟩
        refine K_nb (st' := []) rfl ?_
        refine T_goto 230 rfl (fun _ => rfl) ?_
        refine T_ret rfl (fun _ => rfl) ?_
        exact ⟨(mO m87 [] []), Tm87, (fr_m (fr_s Fm87 (fr_m (fr_s Fm80 (fr_m (fr_s Fm50 (fr_m fr_0 rfl rfl) rfl rfl) rfl rfl) rfl rfl) rfl rfl) rfl rfl) rfl rfl), rfl⟩
      by_cases h88 : (m.2 45) d = 325
      · skip
        refine T_cast 325 h88 ?_
        refine T_pop 213 rfl (fun _ => rfl) ?_
        refine T_ld 214 (.ref (obq (m.2 107) u)) rfl (fun _ => rfl) ?_
        refine T_ld 216 (.int (i32 ((m.2 46) d))) rfl (fun _ => rfl) ?_
        refine T_callx 219 201 [.ref (obq (m.2 107) u), .int (i32 ((m.2 46) d))] [] rfl (inv_vt (args := [.int (i32 ((m.2 46) d))]) (obe_c (congrArg (fun f : Int → Int => (f u).toNat) (show (m80.2 107) = (m.2 107) from ((fr2 Fm80 107 rfl).trans (fr2 Fm50 107 rfl)))) (khp_o0 _ (OKr_c (show (m80.2 107) = (m.2 107) from ((fr2 Fm80 107 rfl).trans (fr2 Fm50 107 rfl))) (show (m80.2 108) = (m.2 108) from ((fr2 Fm80 108 rfl).trans (fr2 Fm50 108 rfl))) pOKu))) rfl rfl rfl) rfl rfl (TC_cast (fun g9 => [.ref (obq g9 u), .int (i32 ((m.2 46) d))]) (show (m80.2 107) = (m.2 107) from ((fr2 Fm80 107 rfl).trans (fr2 Fm50 107 rfl))) (c_op_takeAway w (mO m80 [] []) c N D (by omega) Tm80 u ((m.2 46) d) (r32 (by omega) (by omega)) (r32 (by omega) (by omega)) (OKr_c (show (m80.2 107) = (m.2 107) from ((fr2 Fm80 107 rfl).trans (fr2 Fm50 107 rfl))) (show (m80.2 108) = (m.2 108) from ((fr2 Fm80 108 rfl).trans (fr2 Fm50 108 rfl))) pOKu) (show 0 ≤ ((m.2 46) d) ∧ ((m.2 46) d) ≤ 187 by omega))) (fun rr89 k90 => ?_)
        obtain ⟨m91, Tm91, Fm91, rfl⟩ := k90
        refine Or.inl ⟨_, _, _, _, rfl, ?_⟩
        refine K_nb (st' := []) rfl ?_
        refine T_goto 230 rfl (fun _ => rfl) ?_
        refine T_ret rfl (fun _ => rfl) ?_
        exact ⟨(mO m91 [] []), Tm91, (fr_m (fr_s Fm91 (fr_m (fr_s Fm80 (fr_m (fr_s Fm50 (fr_m fr_0 rfl rfl) rfl rfl) rfl rfl) rfl rfl) rfl rfl) rfl rfl) rfl rfl), rfl⟩
      by_cases h92 : (m.2 45) d = 327
      · skip
        refine T_cast 327 h92 ?_
        refine T_pop 191 rfl (fun _ => rfl) ?_
        refine T_ld 192 (.ref (obq (m.2 107) u)) rfl (fun _ => rfl) ?_
        refine T_ld 194 (.int (i32 ((m.2 46) d))) rfl (fun _ => rfl) ?_
        refine T_ld 195 (.ref 188) rfl (fun _ => rfl) ?_
        refine T_ld 197 (.int (i32 ((((m.2 47) d) * 64) + x55))) rfl (fun _ => rfl) ?_
        refine K_lald 198 71 (m.2 71) rfl rfl rfl (by omega) (show ((((m.2 47) d) * 64) + x55) < (512 : Int) by omega) (show (m80.2 71) = (m.2 71) from ((fr2 Fm80 71 rfl).trans (fr2 Fm50 71 rfl))) ?_
        have e93 : (-9223372036854775808) ≤ (m.2 71) ((((m.2 47) d) * 64) + x55) ∧ (m.2 71) ((((m.2 47) d) * 64) + x55) ≤ 9223372036854775807 := (hT.2.1 71) ((((m.2 47) d) * 64) + x55)
        refine T_callx 201 200 [.ref (obq (m.2 107) u), .int (i32 ((m.2 46) d)), .long (i64 ((m.2 71) ((((m.2 47) d) * 64) + x55)))] [] rfl (inv_vt (args := [.long (i64 ((m.2 71) ((((m.2 47) d) * 64) + x55))), .int (i32 ((m.2 46) d))]) (obe_c (congrArg (fun f : Int → Int => (f u).toNat) (show (m80.2 107) = (m.2 107) from ((fr2 Fm80 107 rfl).trans (fr2 Fm50 107 rfl)))) (khp_o0 _ (OKr_c (show (m80.2 107) = (m.2 107) from ((fr2 Fm80 107 rfl).trans (fr2 Fm50 107 rfl))) (show (m80.2 108) = (m.2 108) from ((fr2 Fm80 108 rfl).trans (fr2 Fm50 108 rfl))) pOKu))) rfl rfl rfl) rfl rfl (TC_cast (fun g9 => [.ref (obq g9 u), .int (i32 ((m.2 46) d)), .long (i64 ((m.2 71) ((((m.2 47) d) * 64) + x55)))]) (show (m80.2 107) = (m.2 107) from ((fr2 Fm80 107 rfl).trans (fr2 Fm50 107 rfl))) (c_op_put w (mO m80 [] []) c N D (by omega) Tm80 u ((m.2 46) d) ((m.2 71) ((((m.2 47) d) * 64) + x55)) (r32 (by omega) (by omega)) (r32 (by omega) (by omega)) (r64 (by omega) (by omega)) (OKr_c (show (m80.2 107) = (m.2 107) from ((fr2 Fm80 107 rfl).trans (fr2 Fm50 107 rfl))) (show (m80.2 108) = (m.2 108) from ((fr2 Fm80 108 rfl).trans (fr2 Fm50 108 rfl))) pOKu) (show 0 ≤ ((m.2 46) d) ∧ ((m.2 46) d) ≤ 220 by omega))) (fun rr94 k95 => ?_)
        obtain ⟨m96, Tm96, Fm96, rfl⟩ := k95
        refine Or.inl ⟨_, _, _, _, rfl, ?_⟩
        refine K_nb (st' := []) rfl ?_
        refine T_goto 230 rfl (fun _ => rfl) ?_
        refine T_ret rfl (fun _ => rfl) ?_
        exact ⟨(mO m96 [] []), Tm96, (fr_m (fr_s Fm96 (fr_m (fr_s Fm80 (fr_m (fr_s Fm50 (fr_m fr_0 rfl rfl) rfl rfl) rfl rfl) rfl rfl) rfl rfl) rfl rfl) rfl rfl), rfl⟩
      by_cases h97 : (m.2 45) d = 328
      · skip
        refine T_cast 328 h97 ?_
        refine T_pop 204 rfl (fun _ => rfl) ?_
        refine T_ld 205 (.ref 188) rfl (fun _ => rfl) ?_
        refine T_ld 207 (.int (i32 ((((m.2 47) d) * 64) + x55))) rfl (fun _ => rfl) ?_
        refine T_ld 209 (.long (i64 vv81)) rfl (fun _ => rfl) ?_
        have G98 : ∀ j, (-9223372036854775808) ≤ (upI (m.2 71) ((((m.2 47) d) * 64) + x55) vv81) j ∧ (upI (m.2 71) ((((m.2 47) d) * 64) + x55) vv81) j ≤ 9223372036854775807 := upI_rg (hT.2.1 71) ⟨by omega, by omega⟩
        refine K_last (a' := [(71, upI (m.2 71) ((((m.2 47) d) * 64) + x55) vv81)]) 210 71 (m.2 71) rfl rfl rfl (by omega) (show ((((m.2 47) d) * 64) + x55) < (512 : Int) by omega) (show (m80.2 71) = (m.2 71) from ((fr2 Fm80 71 rfl).trans (fr2 Fm50 71 rfl))) rfl ?_
        refine T_goto 230 rfl (fun _ => rfl) ?_
        refine T_ret rfl (fun _ => rfl) ?_
        exact ⟨(mO m80 [] [(71, upI (m.2 71) ((((m.2 47) d) * 64) + x55) vv81)]), (KTy_mO Tm80 rfl rfl trivial ⟨G98, trivial⟩), (fr_m (fr_s Fm80 (fr_m (fr_s Fm50 (fr_m fr_0 rfl rfl) rfl rfl) rfl rfl) rfl rfl) rfl rfl), rfl⟩
      refine T_lkd 222 rfl rfl (r32 (by omega) (by omega)) (by simp [Op.lookupswitch.offset, show ¬ ((61 : Int) = (m.2 45) d) by omega, show ¬ ((325 : Int) = (m.2 45) d) by omega, show ¬ ((327 : Int) = (m.2 45) d) by omega, show ¬ ((328 : Int) = (m.2 45) d) by omega]) ?_
      refine T_ld 223 (.ref (obq (m.2 107) u)) rfl (fun _ => rfl) ?_
      refine K_gor 226 rfl rfl (OKr_c (show (m80.2 107) = (m.2 107) from ((fr2 Fm80 107 rfl).trans (fr2 Fm50 107 rfl))) (show (m80.2 108) = (m.2 108) from ((fr2 Fm80 108 rfl).trans (fr2 Fm50 108 rfl))) pOKu) (congrArg (fun f : Int → Int => (f u).toNat) (show (m80.2 107) = (m.2 107) from ((fr2 Fm80 107 rfl).trans (fr2 Fm50 107 rfl)))) rfl ?_
      refine T_ld 228 (.int (i32 ((m.2 46) d))) rfl (fun _ => rfl) ?_
      refine T_ld 229 (.long (i64 1)) rfl (fun _ => rfl) ?_
      have G99 : ∀ j, (-9223372036854775808) ≤ (upI (m.2 101) (65536 * u + ((m.2 46) d)) 1) j ∧ (upI (m.2 101) (65536 * u + ((m.2 46) d)) 1) j ≤ 9223372036854775807 := upI_rg (hT.2.1 101) ⟨by omega, by omega⟩
      refine K_lasto (a' := [(101, upI (m.2 101) (65536 * u + ((m.2 46) d)) 1)]) 230 1 (m.2 101) rfl rfl rfl (OKr_c (show (m80.2 107) = (m.2 107) from ((fr2 Fm80 107 rfl).trans (fr2 Fm50 107 rfl))) (show (m80.2 108) = (m.2 108) from ((fr2 Fm80 108 rfl).trans (fr2 Fm50 108 rfl))) pOKu) (show KTy (mO m80 [] []) from Tm80).2.2.1 (congrArg (fun f : Int → Int => (f u).toNat) (show (m80.2 107) = (m.2 107) from ((fr2 Fm80 107 rfl).trans (fr2 Fm50 107 rfl)))) (by omega) (show ((m.2 46) d) < (221 : Int) by omega) (show (m80.2 101) = (m.2 101) from ((fr2 Fm80 101 rfl).trans (fr2 Fm50 101 rfl))) rfl ?_
      refine T_ret rfl (fun _ => rfl) ?_
      exact ⟨(mO m80 [] [(101, upI (m.2 101) (65536 * u + ((m.2 46) d)) 1)]), (KTy_mO Tm80 rfl rfl trivial ⟨G99, trivial⟩), (fr_m (fr_s Fm80 (fr_m (fr_s Fm50 (fr_m fr_0 rfl rfl) rfl rfl) rfl rfl) rfl rfl) rfl rfl), rfl⟩
