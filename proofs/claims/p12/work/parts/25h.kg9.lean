def fF_pw_key : List Nat := []
def fA_pw_key : List Nat := [2, 3]
def Q_pw_key (m : mR) (c : Nat → Option am_C) (N : Nat) (i : Int) (x : Int) (y : Int) : ag_Re af_T → Prop := fun R => (∃ (M : mR), KTy M ∧ fr fF_pw_key fA_pw_key m M ∧ R = (.inl (none), (khp M c, N), 0, 0)) ∨ (∃ (x : Nat) (M : mR), (x = 2) ∧ (KTy M) ∧ (fr fF_pw_key fA_pw_key m M) ∧ R = (.inr x, (khp M c, N), 1, 6))
set_option maxHeartbeats 3000000 in
theorem c_pw_key (w : wX) (m : mR) (c : Nat → Option am_C) (N D : Nat) (hD : 6 ≤ D) (hT : KTy m) (i : Int) (x : Int) (y : Int) (qi : R32 i) (qx : R64 x) (qy : R64 y) : TC w D 167 [.ref 0, .int (i32 i), .long (i64 x), .long (i64 y)] (khp m c, N) (Q_pw_key m c N i x y) := by
  obtain ⟨D, rfl⟩ : ∃ k, D = k + 1 := ⟨D - 1, by omega⟩
  obtain ⟨qia, qib⟩ := id qi
  obtain ⟨qxa, qxb⟩ := id qx
  obtain ⟨qya, qyb⟩ := id qy
  refine Tc_of rfl ?_
  rw [show (khp m c, N) = (khp (mO m [] []) c, N) from by rw [mO_nil m]]
  show TT w D pm_167 (0, [(0, .ref 0), (1, .int (i32 i)), (2, .long (i64 x)), (4, .long (i64 y))], [], (khp (mO m [] []) c, N), 0, 0) (Q_pw_key m c N i x y)
  refine T_ld 1 (.int (i32 i)) rfl (fun _ => rfl) ?_
  refine T_if 9 4 rfl rfl rfl (r32 (by omega) (by omega)) (fun (h1 : i < 0) => ?_) (fun (h1 : ¬ (i < 0)) => ?_)
  · skip
    refine T_thr rfl (by omega) rfl rfl ?_
    exact Or.inr ⟨2, (mO m [] []), rfl, hT, (fr_m fr_0 rfl rfl), rfl⟩
  · skip
    refine T_ld 5 (.int (i32 i)) rfl (fun _ => rfl) ?_
    refine T_ld 6 (.int (i32 4)) rfl (fun _ => rfl) ?_
    refine T_icmp 19 9 rfl rfl rfl (r32 (by omega) (by omega)) ⟨by decide, by decide⟩ (fun (h2 : i < 4) => ?_) (fun (h2 : ¬ (i < 4)) => ?_)
    · skip
      refine T_ld 20 (.ref 0) rfl (fun _ => rfl) ?_
      refine K_gf 23 (.ref 3) rfl rfl kd_0 rfl rfl rfl ?_
      refine T_ld 24 (.int (i32 i)) rfl (fun _ => rfl) ?_
      refine T_ld 25 (.long (i64 x)) rfl (fun _ => rfl) ?_
      have G3 : ∀ j, (-9223372036854775808) ≤ (upI (m.2 2) i x) j ∧ (upI (m.2 2) i x) j ≤ 9223372036854775807 := upI_rg (hT.2.1 2) ⟨by omega, by omega⟩
      refine K_last (a' := [(2, upI (m.2 2) i x)]) 26 2 (m.2 2) rfl rfl rfl (by omega) (show i < (4 : Int) by omega) rfl rfl ?_
      refine T_ld 27 (.ref 0) rfl (fun _ => rfl) ?_
      refine K_gf 30 (.ref 4) rfl rfl kd_0 rfl rfl rfl ?_
      refine T_ld 31 (.int (i32 i)) rfl (fun _ => rfl) ?_
      refine T_ld 33 (.long (i64 y)) rfl (fun _ => rfl) ?_
      have G4 : ∀ j, (-9223372036854775808) ≤ (upI (m.2 3) i y) j ∧ (upI (m.2 3) i y) j ≤ 9223372036854775807 := upI_rg (hT.2.1 3) ⟨by omega, by omega⟩
      refine K_last (a' := [(2, upI (m.2 2) i x), (3, upI (m.2 3) i y)]) 34 3 (m.2 3) rfl rfl rfl (by omega) (show i < (4 : Int) by omega) rfl rfl ?_
      refine T_ret rfl (fun _ => rfl) ?_
      exact Or.inl ⟨(mO m [] [(2, upI (m.2 2) i x), (3, upI (m.2 3) i y)]), (KTy_mO hT rfl rfl trivial ⟨G3, G4, trivial⟩), (fr_m fr_0 rfl rfl), rfl⟩
    · skip
      refine T_thr rfl (by omega) rfl rfl ?_
      exact Or.inr ⟨2, (mO m [] []), rfl, hT, (fr_m fr_0 rfl rfl), rfl⟩
def fF_pw_datum : List Nat := []
def fA_pw_datum : List Nat := [4]
def Q_pw_datum (m : mR) (c : Nat → Option am_C) (N : Nat) (i : Int) (x : Int) : ag_Re af_T → Prop := fun R => (∃ (M : mR), KTy M ∧ fr fF_pw_datum fA_pw_datum m M ∧ R = (.inl (none), (khp M c, N), 0, 0)) ∨ (∃ (x : Nat) (M : mR), (x = 2) ∧ (KTy M) ∧ (fr fF_pw_datum fA_pw_datum m M) ∧ R = (.inr x, (khp M c, N), 1, 6))
set_option maxHeartbeats 3000000 in
theorem c_pw_datum (w : wX) (m : mR) (c : Nat → Option am_C) (N D : Nat) (hD : 6 ≤ D) (hT : KTy m) (i : Int) (x : Int) (qi : R32 i) (qx : R64 x) : TC w D 169 [.ref 0, .int (i32 i), .long (i64 x)] (khp m c, N) (Q_pw_datum m c N i x) := by
  obtain ⟨D, rfl⟩ : ∃ k, D = k + 1 := ⟨D - 1, by omega⟩
  obtain ⟨qia, qib⟩ := id qi
  obtain ⟨qxa, qxb⟩ := id qx
  refine Tc_of rfl ?_
  rw [show (khp m c, N) = (khp (mO m [] []) c, N) from by rw [mO_nil m]]
  show TT w D pm_169 (0, [(0, .ref 0), (1, .int (i32 i)), (2, .long (i64 x))], [], (khp (mO m [] []) c, N), 0, 0) (Q_pw_datum m c N i x)
  refine T_ld 1 (.int (i32 i)) rfl (fun _ => rfl) ?_
  refine T_if 9 4 rfl rfl rfl (r32 (by omega) (by omega)) (fun (h1 : i < 0) => ?_) (fun (h1 : ¬ (i < 0)) => ?_)
  · skip
    refine T_thr rfl (by omega) rfl rfl ?_
    exact Or.inr ⟨2, (mO m [] []), rfl, hT, (fr_m fr_0 rfl rfl), rfl⟩
  · skip
    refine T_ld 5 (.int (i32 i)) rfl (fun _ => rfl) ?_
    refine T_ld 6 (.int (i32 4)) rfl (fun _ => rfl) ?_
    refine T_icmp 19 9 rfl rfl rfl (r32 (by omega) (by omega)) ⟨by decide, by decide⟩ (fun (h2 : i < 4) => ?_) (fun (h2 : ¬ (i < 4)) => ?_)
    · skip
      refine T_ld 20 (.ref 0) rfl (fun _ => rfl) ?_
      refine K_gf 23 (.ref 5) rfl rfl kd_0 rfl rfl rfl ?_
      refine T_ld 24 (.int (i32 i)) rfl (fun _ => rfl) ?_
      refine T_ld 25 (.long (i64 x)) rfl (fun _ => rfl) ?_
      have G3 : ∀ j, (-9223372036854775808) ≤ (upI (m.2 4) i x) j ∧ (upI (m.2 4) i x) j ≤ 9223372036854775807 := upI_rg (hT.2.1 4) ⟨by omega, by omega⟩
      refine K_last (a' := [(4, upI (m.2 4) i x)]) 26 4 (m.2 4) rfl rfl rfl (by omega) (show i < (4 : Int) by omega) rfl rfl ?_
      refine T_ret rfl (fun _ => rfl) ?_
      exact Or.inl ⟨(mO m [] [(4, upI (m.2 4) i x)]), (KTy_mO hT rfl rfl trivial ⟨G3, trivial⟩), (fr_m fr_0 rfl rfl), rfl⟩
    · skip
      refine T_thr rfl (by omega) rfl rfl ?_
      exact Or.inr ⟨2, (mO m [] []), rfl, hT, (fr_m fr_0 rfl rfl), rfl⟩
def fF_pw_end : List Nat := [200]
def fA_pw_end : List Nat := [0, 1]
def Q_pw_end (m : mR) (c : Nat → Option am_C) (N : Nat) (n : Int) : ag_Re af_T → Prop := fun R => (∃ (M : mR) (r : Int), KTy M ∧ fr fF_pw_end fA_pw_end m M ∧ ((-2147483648) ≤ r ∧ r ≤ 2147483647) ∧ R = (.inl (some (.int (i32 r))), (khp M c, N), 0, 0))
set_option maxHeartbeats 3000000 in
theorem c_pw_end (w : wX) (m : mR) (c : Nat → Option am_C) (N D : Nat) (hD : 2 ≤ D) (hT : KTy m) (n : Int) (qn : R32 n) : TC w D 24 [.ref 0, .int (i32 n)] (khp m c, N) (Q_pw_end m c N n) := by
  obtain ⟨D, rfl⟩ : ∃ k, D = k + 1 := ⟨D - 1, by omega⟩
  obtain ⟨qna, qnb⟩ := id qn
  have f200 : 0 ≤ m.1 200 ∧ m.1 200 ≤ 4000 := hT.1 200
  refine Tc_of rfl ?_
  rw [show (khp m c, N) = (khp (mO m [] []) c, N) from by rw [mO_nil m]]
  show TT w D pm_24 (0, [(0, .ref 0), (1, .int (i32 n))], [], (khp (mO m [] []) c, N), 0, 0) (Q_pw_end m c N n)
  refine T_ld 1 (.int (i32 n)) rfl (fun _ => rfl) ?_
  refine T_if 22 4 rfl rfl rfl (r32 (by omega) (by omega)) (fun (h1 : n < 0) => ?_) (fun (h1 : ¬ (n < 0)) => ?_)
  · skip
    refine T_ld 23 (.int (i32 (-1))) rfl (fun _ => rfl) ?_
    refine T_ret rfl (fun _ => rfl) ?_
    exact ⟨(mO m [] []), (-1), hT, (fr_m fr_0 rfl rfl), ⟨by omega, by omega⟩, rfl⟩
  · skip
    refine T_ld 5 (.int (i32 n)) rfl (fun _ => rfl) ?_
    refine T_ld 7 (.int (i32 20)) rfl (fun _ => rfl) ?_
    refine T_icmp 22 10 rfl rfl rfl (r32 (by omega) (by omega)) ⟨by decide, by decide⟩ (fun (h2 : (20 : Int) < n) => ?_) (fun (h2 : ¬ ((20 : Int) < n)) => ?_)
    · skip
      refine T_ld 23 (.int (i32 (-1))) rfl (fun _ => rfl) ?_
      refine T_ret rfl (fun _ => rfl) ?_
      exact ⟨(mO m [] []), (-1), hT, (fr_m fr_0 rfl rfl), ⟨by omega, by omega⟩, rfl⟩
    · skip
      refine T_ld 11 (.ref 0) rfl (fun _ => rfl) ?_
      refine K_gf 14 (.int (i32 (m.1 200))) rfl rfl kd_0 rfl rfl rfl ?_
      refine T_ld 15 (.int (i32 n)) rfl (fun _ => rfl) ?_
      refine T_iadd 16 rfl rfl ?_
      refine T_ld 19 (.int (i32 4000)) rfl (fun _ => rfl) ?_
      refine T_icmp 24 22 rfl rfl rfl (r32 (by omega) (by omega)) ⟨by decide, by decide⟩ (fun (h3 : (m.1 200) + n ≤ 4000) => ?_) (fun (h3 : ¬ ((m.1 200) + n ≤ 4000)) => ?_)
      · skip
        refine T_ld 25 (.int (i32 0)) rfl (fun _ => rfl) ?_
        refine T_sto 26 [(2, .int (i32 0)), (0, .ref 0), (1, .int (i32 n))] rfl (fun _ => rfl) ?_
        have L26_6 : ∀ (n12 : Nat) (v4 : Int) (m5 : mR), (R32 v4) → KTy m5 → fr [] [1] (mO m [] []) m5 → (0 ≤ v4) → (0 ≤ v4 ∧ v4 ≤ 20) → 30 - v4 < (n12 : Int) → TT w D pm_24 (26, [(0, .ref 0), (1, .int (i32 n)), (2, .int (i32 v4))], [], (khp (mO m5 [] []) c, N), 0, 0) (Q_pw_end m c N n) := by
          intro n12
          induction n12 with
          | zero =>
            intro v4 m5 q9 Tm5 Fm5 ic7 ic8 hmu
            obtain ⟨q9a, q9b⟩ := id q9
            exfalso
            omega
          | succ n12 ih =>
            intro v4 m5 q9 Tm5 Fm5 ic7 ic8 hmu
            obtain ⟨q9a, q9b⟩ := id q9
            have ih13 := ih
            refine T_ld 27 (.int (i32 v4)) rfl (fun _ => rfl) ?_
            refine T_ld 28 (.int (i32 n)) rfl (fun _ => rfl) ?_
            refine T_icmp 67 31 rfl rfl rfl (r32 (by omega) (by omega)) (r32 (by omega) (by omega)) (fun (h14 : n ≤ v4) => ?_) (fun (h14 : ¬ (n ≤ v4)) => ?_)
            · skip
              refine T_ld 68 (.ref 0) rfl (fun _ => rfl) ?_
              refine T_ld 69 (.ref 0) rfl (fun _ => rfl) ?_
              refine K_gf 72 (.int (i32 (m.1 200))) rfl rfl kd_0 rfl (kval_c2 (k := 200) (F := fun x => .int (i32 x)) rfl (show (m5.1 200) = (m.1 200) from (fr1 Fm5 200 rfl))) rfl ?_
              refine T_ld 73 (.int (i32 n)) rfl (fun _ => rfl) ?_
              refine T_iadd 74 rfl rfl ?_
              refine K_pf (l' := [(200, (m.1 200) + n)]) 77 ((m.1 200) + n) rfl rfl kd_0 rfl rfl rfl rfl rfl rfl rfl ?_
              have g15 : 0 ≤ (m.1 200) + n ∧ (m.1 200) + n ≤ 4000 := ⟨by omega, by omega⟩
              refine T_ld 78 (.ref 0) rfl (fun _ => rfl) ?_
              refine K_gf 81 (.ref 1) rfl rfl kd_0 rfl rfl rfl ?_
              refine T_ld 82 (.int (i32 0)) rfl (fun _ => rfl) ?_
              refine T_callx 85 25 [.ref 1, .int (i32 0)] [] rfl (fun _ => rfl) rfl rfl (c_fill_pw_ready w (mO m5 [(200, (m.1 200) + n)] []) c N D (by omega) (KTy_mO Tm5 rfl rfl ⟨g15, trivial⟩ trivial) 0 ⟨by decide, by decide⟩ (show -2147483648 ≤ (0 : Int) ∧ (0 : Int) ≤ 2147483647 by omega)) (fun rr16 k17 => ?_)
              obtain ⟨m18, Tm18, Fm18, rfl⟩ := k17
              refine Or.inl ⟨_, _, _, _, rfl, ?_⟩
              refine K_nb (st' := []) rfl ?_
              refine T_ld 86 (.ref 0) rfl (fun _ => rfl) ?_
              refine K_gf 89 (.int (i32 ((m.1 200) + n))) rfl rfl kd_0 rfl (kval_c2 (k := 200) (F := fun x => .int (i32 x)) rfl (show (m18.1 200) = ((m.1 200) + n) from (fr1 Fm18 200 rfl))) rfl ?_
              refine T_ret rfl (fun _ => rfl) ?_
              exact ⟨(mO m18 [] []), (m.1 200) + n, Tm18, (fr_m (fr_s Fm18 (fr_m (fr_s Fm5 (fr_m fr_0 rfl rfl) rfl rfl) rfl rfl) rfl rfl) rfl rfl), ⟨by omega, by omega⟩, rfl⟩
            · skip
              refine T_ld 32 (.ref 0) rfl (fun _ => rfl) ?_
              refine K_gf 35 (.ref 2) rfl rfl kd_0 rfl rfl rfl ?_
              refine T_ld 36 (.ref 0) rfl (fun _ => rfl) ?_
              refine K_gf 39 (.int (i32 (m.1 200))) rfl rfl kd_0 rfl (kval_c2 (k := 200) (F := fun x => .int (i32 x)) rfl (show (m5.1 200) = (m.1 200) from (fr1 Fm5 200 rfl))) rfl ?_
              refine T_ld 40 (.int (i32 v4)) rfl (fun _ => rfl) ?_
              refine T_iadd 41 rfl rfl ?_
              refine T_ld 42 (.ref 0) rfl (fun _ => rfl) ?_
              refine K_gf 45 (.ref 1) rfl rfl kd_0 rfl rfl rfl ?_
              refine T_ld 46 (.int (i32 v4)) rfl (fun _ => rfl) ?_
              refine T_ld 47 (.int (i32 4)) rfl (fun _ => rfl) ?_
              refine T_idiv 48 rfl rfl (by omega) (by omega) (by omega) (by omega) ?_
              refine K_iald 49 0 (m.2 0) rfl rfl rfl (by omega) (show (v4 / 4) < (5 : Int) by omega) (show (m5.2 0) = (m.2 0) from (fr2 Fm5 0 rfl)) ?_
              have e19 : (-2147483648) ≤ (m.2 0) (v4 / 4) ∧ (m.2 0) (v4 / 4) ≤ 2147483647 := (hT.2.1 0) (v4 / 4)
              refine T_ld 51 (.int (i32 24)) rfl (fun _ => rfl) ?_
              refine T_ld 53 (.int (i32 8)) rfl (fun _ => rfl) ?_
              refine T_ld 54 (.int (i32 v4)) rfl (fun _ => rfl) ?_
              refine T_ld 55 (.int (i32 4)) rfl (fun _ => rfl) ?_
              refine T_irem 56 rfl rfl (by omega) (by omega) (by omega) (by omega) ?_
              refine T_imul 57 rfl rfl ?_
              refine T_isub 58 rfl rfl ?_
              refine T_hv 59 _ rfl (fun _ => rfl) (fun z20 h21 => ?_)
              obtain ⟨h21a, h21b⟩ := h21
              refine T_i2b 60 rfl rfl (fun z22 h23 => ?_)
              have G24 : ∀ j, (-128) ≤ (upI (m5.2 1) ((m.1 200) + v4) z22) j ∧ (upI (m5.2 1) ((m.1 200) + v4) z22) j ≤ 127 := upI_rg (Tm5.2.1 1) ⟨by omega, by omega⟩
              refine K_bast (a' := [(1, upI (m5.2 1) ((m.1 200) + v4) z22)]) 61 1 (m5.2 1) rfl rfl rfl (by omega) (show ((m.1 200) + v4) < (4000 : Int) by omega) (by omega) rfl rfl ?_
              refine T_iinc 64 [(2, .int (i32 (v4 + 1))), (0, .ref 0), (1, .int (i32 n))] rfl rfl (by decide) rfl rfl ?_
              refine T_goto 26 rfl (fun _ => rfl) ?_
              refine Tm_lv (a := [(0, .ref 0), (1, .int (i32 n)), (2, .int (i32 (v4 + 1)))]) rfl rfl ⟨rfl, rfl, rfl, trivial⟩ ?_
              exact ih13 (v4 + 1) (mO m5 [] [(1, upI (m5.2 1) ((m.1 200) + v4) z22)]) (r32 (by omega) (by omega)) (KTy_mO Tm5 rfl rfl trivial ⟨G24, trivial⟩) (fr_m (fr_s Fm5 (fr_m fr_0 rfl rfl) rfl rfl) rfl rfl) (show 0 ≤ (v4 + 1) by omega) (show 0 ≤ (v4 + 1) ∧ (v4 + 1) ≤ 20 by omega) (show 30 - (v4 + 1) < (n12 : Int) by omega)
        refine Tm_lv (a := [(0, .ref 0), (1, .int (i32 n)), (2, .int (i32 0))]) rfl rfl ⟨rfl, rfl, rfl, trivial⟩ ?_
        exact L26_6 ((30 - (0 : Int) : Int) + 1).toNat 0 (mO m [] []) ⟨by decide, by decide⟩ hT (fr_m fr_0 rfl rfl) (show 0 ≤ (0 : Int) by omega) (show 0 ≤ (0 : Int) ∧ (0 : Int) ≤ 20 by omega) (show 30 - (0 : Int) < ((((30 - (0 : Int) : Int) + 1).toNat : Nat) : Int) by omega)
      · skip
        refine T_ld 23 (.int (i32 (-1))) rfl (fun _ => rfl) ?_
        refine T_ret rfl (fun _ => rfl) ?_
        exact ⟨(mO m [] []), (-1), hT, (fr_m fr_0 rfl rfl), ⟨by omega, by omega⟩, rfl⟩
