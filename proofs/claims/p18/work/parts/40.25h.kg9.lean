def fF_pw_key : List Nat := []
def fA_pw_key : List Nat := [2, 3]
def Q_pw_key (m : mR) (c : Nat → Option am_C) (N : Nat) (i : Int) (x : Int) (y : Int) : ag_Re af_T → Prop := fun R => (∃ (M : mR), KTy M ∧ fr fF_pw_key fA_pw_key m M ∧ (0 ≤ i ∧ i ≤ 3) ∧ ((M.2 2) = upI (m.2 2) i x ∧ (M.2 3) = upI (m.2 3) i y) ∧ R = (.inl (none), (khp M c, N), 0, 0)) ∨ (∃ (x : Nat) (M : mR), (x = 2) ∧ (KTy M) ∧ (fr fF_pw_key fA_pw_key m M) ∧ (i < 0 ∨ 3 < i) ∧ ((M.2 2) = (m.2 2) ∧ (M.2 3) = (m.2 3)) ∧ R = (.inr x, (khp M c, N), 1, 6))
set_option maxHeartbeats 3000000 in
theorem c_pw_key (w : wX) (m : mR) (c : Nat → Option am_C) (N D : Nat) (hD : 6 ≤ D) (hT : KTy m) (i : Int) (x : Int) (y : Int) (qi : R32 i) (qx : R64 x) (qy : R64 y) : TC w D 167 [.ref 0, .int (i32 i), .long (i64 x), .long (i64 y)] (khp m c, N) (Q_pw_key m c N i x y) := by
  obtain ⟨D, rfl⟩ : ∃ k, D = k + 1 := ⟨D - 1, by omega⟩
  obtain ⟨qia, qib⟩ := id qi
  obtain ⟨qxa, qxb⟩ := id qx
  obtain ⟨qya, qyb⟩ := id qy
  refine Tc_of rfl ?_
  rw [show (khp m c, N) = (khp (mO m [] []) c, N) from by rw [mO_nil m]]
  show TT w D pm_167 (0, [(0, .ref 0), (1, .int (i32 i)), (2, .long (i64 x)), (4, .long (i64 y))], [], (khp (mO m [] []) c, N), 0, 0) (Q_pw_key m c N i x y)
  refine T_ld 1 (.int (i32 i)) rfl (fun _ => rfl) ?_
  refine T_if 9 4 rfl rfl rfl (r32 (by omega) (by omega)) (fun (h1 : i < 0) => ?_) (fun (h1 : ¬ (i < 0)) => ?_)
  · skip
    refine T_thr rfl (by omega) rfl rfl ?_
    exact Or.inr ⟨2, (mO m [] []), rfl, hT, (fr_m fr_0 rfl rfl), (show i < 0 ∨ 3 < i by omega), (show (m.2 2) = (m.2 2) ∧ (m.2 3) = (m.2 3) by exact ⟨rfl, rfl⟩), rfl⟩
  · skip
    refine T_ld 5 (.int (i32 i)) rfl (fun _ => rfl) ?_
    refine T_ld 6 (.int (i32 4)) rfl (fun _ => rfl) ?_
    refine T_icmp 19 9 rfl rfl rfl (r32 (by omega) (by omega)) ⟨by decide, by decide⟩ (fun (h2 : i < 4) => ?_) (fun (h2 : ¬ (i < 4)) => ?_)
    · skip
      refine T_ld 20 (.ref 0) rfl (fun _ => rfl) ?_
      refine K_gf 23 (.ref 3) rfl rfl kd_0 rfl rfl rfl ?_
      refine T_ld 24 (.int (i32 i)) rfl (fun _ => rfl) ?_
      refine T_ld 25 (.long (i64 x)) rfl (fun _ => rfl) ?_
      have G3 : ∀ j, (-9223372036854775808) ≤ (upI (m.2 2) i x) j ∧ (upI (m.2 2) i x) j ≤ 9223372036854775807 := upI_rg (hT.2.1 2) ⟨by omega, by omega⟩
      refine K_last (a' := [(2, upI (m.2 2) i x)]) 26 2 (m.2 2) rfl rfl rfl (by omega) (show i < (4 : Int) by omega) rfl rfl ?_
      refine T_ld 27 (.ref 0) rfl (fun _ => rfl) ?_
      refine K_gf 30 (.ref 4) rfl rfl kd_0 rfl rfl rfl ?_
      refine T_ld 31 (.int (i32 i)) rfl (fun _ => rfl) ?_
      refine T_ld 33 (.long (i64 y)) rfl (fun _ => rfl) ?_
      have G4 : ∀ j, (-9223372036854775808) ≤ (upI (m.2 3) i y) j ∧ (upI (m.2 3) i y) j ≤ 9223372036854775807 := upI_rg (hT.2.1 3) ⟨by omega, by omega⟩
      refine K_last (a' := [(2, upI (m.2 2) i x), (3, upI (m.2 3) i y)]) 34 3 (m.2 3) rfl rfl rfl (by omega) (show i < (4 : Int) by omega) rfl rfl ?_
      refine T_ret rfl (fun _ => rfl) ?_
      exact Or.inl ⟨(mO m [] [(2, upI (m.2 2) i x), (3, upI (m.2 3) i y)]), (KTy_mO hT rfl rfl trivial ⟨G3, G4, trivial⟩), (fr_m fr_0 rfl rfl), (show 0 ≤ i ∧ i ≤ 3 by omega), (show (upI (m.2 2) i x) = upI (m.2 2) i x ∧ (upI (m.2 3) i y) = upI (m.2 3) i y by first | (exact ⟨rfl, rfl⟩) | (exfalso; omega)), rfl⟩
    · skip
      refine T_thr rfl (by omega) rfl rfl ?_
      exact Or.inr ⟨2, (mO m [] []), rfl, hT, (fr_m fr_0 rfl rfl), (show i < 0 ∨ 3 < i by omega), (show (m.2 2) = (m.2 2) ∧ (m.2 3) = (m.2 3) by exact ⟨rfl, rfl⟩), rfl⟩
def fF_pw_datum : List Nat := []
def fA_pw_datum : List Nat := [4]
def Q_pw_datum (m : mR) (c : Nat → Option am_C) (N : Nat) (i : Int) (x : Int) : ag_Re af_T → Prop := fun R => (∃ (M : mR), KTy M ∧ fr fF_pw_datum fA_pw_datum m M ∧ (0 ≤ i ∧ i ≤ 3) ∧ ((M.2 4) = upI (m.2 4) i x) ∧ R = (.inl (none), (khp M c, N), 0, 0)) ∨ (∃ (x : Nat) (M : mR), (x = 2) ∧ (KTy M) ∧ (fr fF_pw_datum fA_pw_datum m M) ∧ (i < 0 ∨ 3 < i) ∧ ((M.2 4) = (m.2 4)) ∧ R = (.inr x, (khp M c, N), 1, 6))
set_option maxHeartbeats 3000000 in
theorem c_pw_datum (w : wX) (m : mR) (c : Nat → Option am_C) (N D : Nat) (hD : 6 ≤ D) (hT : KTy m) (i : Int) (x : Int) (qi : R32 i) (qx : R64 x) : TC w D 169 [.ref 0, .int (i32 i), .long (i64 x)] (khp m c, N) (Q_pw_datum m c N i x) := by
  obtain ⟨D, rfl⟩ : ∃ k, D = k + 1 := ⟨D - 1, by omega⟩
  obtain ⟨qia, qib⟩ := id qi
  obtain ⟨qxa, qxb⟩ := id qx
  refine Tc_of rfl ?_
  rw [show (khp m c, N) = (khp (mO m [] []) c, N) from by rw [mO_nil m]]
  show TT w D pm_169 (0, [(0, .ref 0), (1, .int (i32 i)), (2, .long (i64 x))], [], (khp (mO m [] []) c, N), 0, 0) (Q_pw_datum m c N i x)
  refine T_ld 1 (.int (i32 i)) rfl (fun _ => rfl) ?_
  refine T_if 9 4 rfl rfl rfl (r32 (by omega) (by omega)) (fun (h1 : i < 0) => ?_) (fun (h1 : ¬ (i < 0)) => ?_)
  · skip
    refine T_thr rfl (by omega) rfl rfl ?_
    exact Or.inr ⟨2, (mO m [] []), rfl, hT, (fr_m fr_0 rfl rfl), (show i < 0 ∨ 3 < i by omega), (show (m.2 4) = (m.2 4) by rfl), rfl⟩
  · skip
    refine T_ld 5 (.int (i32 i)) rfl (fun _ => rfl) ?_
    refine T_ld 6 (.int (i32 4)) rfl (fun _ => rfl) ?_
    refine T_icmp 19 9 rfl rfl rfl (r32 (by omega) (by omega)) ⟨by decide, by decide⟩ (fun (h2 : i < 4) => ?_) (fun (h2 : ¬ (i < 4)) => ?_)
    · skip
      refine T_ld 20 (.ref 0) rfl (fun _ => rfl) ?_
      refine K_gf 23 (.ref 5) rfl rfl kd_0 rfl rfl rfl ?_
      refine T_ld 24 (.int (i32 i)) rfl (fun _ => rfl) ?_
      refine T_ld 25 (.long (i64 x)) rfl (fun _ => rfl) ?_
      have G3 : ∀ j, (-9223372036854775808) ≤ (upI (m.2 4) i x) j ∧ (upI (m.2 4) i x) j ≤ 9223372036854775807 := upI_rg (hT.2.1 4) ⟨by omega, by omega⟩
      refine K_last (a' := [(4, upI (m.2 4) i x)]) 26 4 (m.2 4) rfl rfl rfl (by omega) (show i < (4 : Int) by omega) rfl rfl ?_
      refine T_ret rfl (fun _ => rfl) ?_
      exact Or.inl ⟨(mO m [] [(4, upI (m.2 4) i x)]), (KTy_mO hT rfl rfl trivial ⟨G3, trivial⟩), (fr_m fr_0 rfl rfl), (show 0 ≤ i ∧ i ≤ 3 by omega), (show (upI (m.2 4) i x) = upI (m.2 4) i x by rfl), rfl⟩
    · skip
      refine T_thr rfl (by omega) rfl rfl ?_
      exact Or.inr ⟨2, (mO m [] []), rfl, hT, (fr_m fr_0 rfl rfl), (show i < 0 ∨ 3 < i by omega), (show (m.2 4) = (m.2 4) by rfl), rfl⟩
def fF_pw_end : List Nat := [200]
def fA_pw_end : List Nat := [0, 1]
def Q_pw_end (m : mR) (c : Nat → Option am_C) (N : Nat) (n : Int) : ag_Re af_T → Prop := fun R => (∃ (M : mR) (r : Int), KTy M ∧ fr fF_pw_end fA_pw_end m M ∧ ((-2147483648) ≤ r ∧ r ≤ 2147483647) ∧ R = (.inl (some (.int (i32 r))), (khp M c, N), 0, 0))
set_option maxHeartbeats 3000000 in
theorem c_pw_end (w : wX) (m : mR) (c : Nat → Option am_C) (N D : Nat) (hD : 2 ≤ D) (hT : KTy m) (n : Int) (qn : R32 n) : TC w D 24 [.ref 0, .int (i32 n)] (khp m c, N) (Q_pw_end m c N n) := by
  obtain ⟨D, rfl⟩ : ∃ k, D = k + 1 := ⟨D - 1, by omega⟩
  obtain ⟨qna, qnb⟩ := id qn
  have f200 : 0 ≤ m.1 200 ∧ m.1 200 ≤ 4000 := hT.1 200
  refine Tc_of rfl ?_
  rw [show (khp m c, N) = (khp (mO m [] []) c, N) from by rw [mO_nil m]]
  show TT w D pm_24 (0, [(0, .ref 0), (1, .int (i32 n))], [], (khp (mO m [] []) c, N), 0, 0) (Q_pw_end m c N n)
  refine T_ld 1 (.int (i32 n)) rfl (fun _ => rfl) ?_
  refine T_if 22 4 rfl rfl rfl (r32 (by omega) (by omega)) (fun (h1 : n < 0) => ?_) (fun (h1 : ¬ (n < 0)) => ?_)
  · skip
    refine T_ld 23 (.int (i32 (-1))) rfl (fun _ => rfl) ?_
    refine T_ret rfl (fun _ => rfl) ?_
    exact ⟨(mO m [] []), (-1), hT, (fr_m fr_0 rfl rfl), ⟨by omega, by omega⟩, rfl⟩
  · skip
    refine T_ld 5 (.int (i32 n)) rfl (fun _ => rfl) ?_
    refine T_ld 7 (.int (i32 20)) rfl (fun _ => rfl) ?_
    refine T_icmp 22 10 rfl rfl rfl (r32 (by omega) (by omega)) ⟨by decide, by decide⟩ (fun (h2 : (20 : Int) < n) => ?_) (fun (h2 : ¬ ((20 : Int) < n)) => ?_)
    · skip
      refine T_ld 23 (.int (i32 (-1))) rfl (fun _ => rfl) ?_
      refine T_ret rfl (fun _ => rfl) ?_
      exact ⟨(mO m [] []), (-1), hT, (fr_m fr_0 rfl rfl), ⟨by omega, by omega⟩, rfl⟩
    · skip
      refine T_ld 11 (.ref 0) rfl (fun _ => rfl) ?_
      refine K_gf 14 (.int (i32 (m.1 200))) rfl rfl kd_0 rfl rfl rfl ?_
      refine T_ld 15 (.int (i32 n)) rfl (fun _ => rfl) ?_
      refine T_iadd 16 rfl rfl ?_
      refine T_ld 19 (.int (i32 4000)) rfl (fun _ => rfl) ?_
      refine T_icmp 24 22 rfl rfl rfl (r32 (by omega) (by omega)) ⟨by decide, by decide⟩ (fun (h3 : (m.1 200) + n ≤ 4000) => ?_) (fun (h3 : ¬ ((m.1 200) + n ≤ 4000)) => ?_)
      · skip
        refine T_ld 25 (.int (i32 0)) rfl (fun _ => rfl) ?_
        refine T_sto 26 [(2, .int (i32 0)), (0, .ref 0), (1, .int (i32 n))] rfl (fun _ => rfl) ?_
        have L26_6 : ∀ (n12 : Nat) (v4 : Int) (m5 : mR), (R32 v4) → KTy m5 → fr [] [1] (mO m [] []) m5 → (0 ≤ v4) → (0 ≤ v4 ∧ v4 ≤ 20) → 30 - v4 < (n12 : Int) → TT w D pm_24 (26, [(0, .ref 0), (1, .int (i32 n)), (2, .int (i32 v4))], [], (khp (mO m5 [] []) c, N), 0, 0) (Q_pw_end m c N n) := by
          intro n12
          induction n12 with
          | zero =>
            intro v4 m5 q9 Tm5 Fm5 ic7 ic8 hmu
            obtain ⟨q9a, q9b⟩ := id q9
            exfalso
            omega
          | succ n12 ih =>
            intro v4 m5 q9 Tm5 Fm5 ic7 ic8 hmu
            obtain ⟨q9a, q9b⟩ := id q9
            have ih13 := ih
            refine T_ld 27 (.int (i32 v4)) rfl (fun _ => rfl) ?_
            refine T_ld 28 (.int (i32 n)) rfl (fun _ => rfl) ?_
            refine T_icmp 67 31 rfl rfl rfl (r32 (by omega) (by omega)) (r32 (by omega) (by omega)) (fun (h14 : n ≤ v4) => ?_) (fun (h14 : ¬ (n ≤ v4)) => ?_)
            · skip
              refine T_ld 68 (.ref 0) rfl (fun _ => rfl) ?_
              refine T_ld 69 (.ref 0) rfl (fun _ => rfl) ?_
              refine K_gf 72 (.int (i32 (m.1 200))) rfl rfl kd_0 rfl (kval_c2 (k := 200) (F := fun x => .int (i32 x)) rfl (show (m5.1 200) = (m.1 200) from (fr1 Fm5 200 rfl))) rfl ?_
              refine T_ld 73 (.int (i32 n)) rfl (fun _ => rfl) ?_
              refine T_iadd 74 rfl rfl ?_
              refine K_pf (l' := [(200, (m.1 200) + n)]) 77 ((m.1 200) + n) rfl rfl kd_0 rfl rfl rfl rfl rfl rfl rfl ?_
              have g15 : 0 ≤ (m.1 200) + n ∧ (m.1 200) + n ≤ 4000 := ⟨by omega, by omega⟩
              refine T_ld 78 (.ref 0) rfl (fun _ => rfl) ?_
              refine K_gf 81 (.ref 1) rfl rfl kd_0 rfl rfl rfl ?_
              refine T_ld 82 (.int (i32 0)) rfl (fun _ => rfl) ?_
              refine T_callx 85 25 [.ref 1, .int (i32 0)] [] rfl (fun _ => rfl) rfl rfl (c_fill_pw_ready w (mO m5 [(200, (m.1 200) + n)] []) c N D (by omega) (KTy_mO Tm5 rfl rfl ⟨g15, trivial⟩ trivial) 0 ⟨by decide, by decide⟩ (show -2147483648 ≤ (0 : Int) ∧ (0 : Int) ≤ 2147483647 by omega)) (fun rr16 k17 => ?_)
              obtain ⟨m18, Tm18, Fm18, rfl⟩ := k17
              refine Or.inl ⟨_, _, _, _, rfl, ?_⟩
              refine K_nb (st' := []) rfl ?_
              refine T_ld 86 (.ref 0) rfl (fun _ => rfl) ?_
              refine K_gf 89 (.int (i32 ((m.1 200) + n))) rfl rfl kd_0 rfl (kval_c2 (k := 200) (F := fun x => .int (i32 x)) rfl (show (m18.1 200) = ((m.1 200) + n) from (fr1 Fm18 200 rfl))) rfl ?_
              refine T_ret rfl (fun _ => rfl) ?_
              exact ⟨(mO m18 [] []), (m.1 200) + n, Tm18, (fr_m (fr_s Fm18 (fr_m (fr_s Fm5 (fr_m fr_0 rfl rfl) rfl rfl) rfl rfl) rfl rfl) rfl rfl), ⟨by omega, by omega⟩, rfl⟩
            · skip
              refine T_ld 32 (.ref 0) rfl (fun _ => rfl) ?_
              refine K_gf 35 (.ref 2) rfl rfl kd_0 rfl rfl rfl ?_
              refine T_ld 36 (.ref 0) rfl (fun _ => rfl) ?_
              refine K_gf 39 (.int (i32 (m.1 200))) rfl rfl kd_0 rfl (kval_c2 (k := 200) (F := fun x => .int (i32 x)) rfl (show (m5.1 200) = (m.1 200) from (fr1 Fm5 200 rfl))) rfl ?_
              refine T_ld 40 (.int (i32 v4)) rfl (fun _ => rfl) ?_
              refine T_iadd 41 rfl rfl ?_
              refine T_ld 42 (.ref 0) rfl (fun _ => rfl) ?_
              refine K_gf 45 (.ref 1) rfl rfl kd_0 rfl rfl rfl ?_
              refine T_ld 46 (.int (i32 v4)) rfl (fun _ => rfl) ?_
              refine T_ld 47 (.int (i32 4)) rfl (fun _ => rfl) ?_
              refine T_idiv 48 rfl rfl (by omega) (by omega) (by omega) (by omega) ?_
              refine K_iald 49 0 (m.2 0) rfl rfl rfl (by omega) (show (v4 / 4) < (5 : Int) by omega) (show (m5.2 0) = (m.2 0) from (fr2 Fm5 0 rfl)) ?_
              have e19 : (-2147483648) ≤ (m.2 0) (v4 / 4) ∧ (m.2 0) (v4 / 4) ≤ 2147483647 := (hT.2.1 0) (v4 / 4)
              refine T_ld 51 (.int (i32 24)) rfl (fun _ => rfl) ?_
              refine T_ld 53 (.int (i32 8)) rfl (fun _ => rfl) ?_
              refine T_ld 54 (.int (i32 v4)) rfl (fun _ => rfl) ?_
              refine T_ld 55 (.int (i32 4)) rfl (fun _ => rfl) ?_
              refine T_irem 56 rfl rfl (by omega) (by omega) (by omega) (by omega) ?_
              refine T_imul 57 rfl rfl ?_
              refine T_isub 58 rfl rfl ?_
              refine T_hv 59 _ rfl (fun _ => rfl) (fun z20 h21 => ?_)
              obtain ⟨h21a, h21b⟩ := h21
              refine T_i2b 60 rfl rfl (fun z22 h23 => ?_)
              have G24 : ∀ j, (-128) ≤ (upI (m5.2 1) ((m.1 200) + v4) z22) j ∧ (upI (m5.2 1) ((m.1 200) + v4) z22) j ≤ 127 := upI_rg (Tm5.2.1 1) ⟨by omega, by omega⟩
              refine K_bast (a' := [(1, upI (m5.2 1) ((m.1 200) + v4) z22)]) 61 1 (m5.2 1) rfl rfl rfl (by omega) (show ((m.1 200) + v4) < (4000 : Int) by omega) (by omega) rfl rfl ?_
              refine T_iinc 64 [(2, .int (i32 (v4 + 1))), (0, .ref 0), (1, .int (i32 n))] rfl rfl (by decide) rfl rfl ?_
              refine T_goto 26 rfl (fun _ => rfl) ?_
              refine Tm_lv (a := [(0, .ref 0), (1, .int (i32 n)), (2, .int (i32 (v4 + 1)))]) rfl rfl ⟨rfl, rfl, rfl, trivial⟩ ?_
              exact ih13 (v4 + 1) (mO m5 [] [(1, upI (m5.2 1) ((m.1 200) + v4) z22)]) (r32 (by omega) (by omega)) (KTy_mO Tm5 rfl rfl trivial ⟨G24, trivial⟩) (fr_m (fr_s Fm5 (fr_m fr_0 rfl rfl) rfl rfl) rfl rfl) (show 0 ≤ (v4 + 1) by omega) (show 0 ≤ (v4 + 1) ∧ (v4 + 1) ≤ 20 by omega) (show 30 - (v4 + 1) < (n12 : Int) by omega)
        refine Tm_lv (a := [(0, .ref 0), (1, .int (i32 n)), (2, .int (i32 0))]) rfl rfl ⟨rfl, rfl, rfl, trivial⟩ ?_
        exact L26_6 ((30 - (0 : Int) : Int) + 1).toNat 0 (mO m [] []) ⟨by decide, by decide⟩ hT (fr_m fr_0 rfl rfl) (show 0 ≤ (0 : Int) by omega) (show 0 ≤ (0 : Int) ∧ (0 : Int) ≤ 20 by omega) (show 30 - (0 : Int) < ((((30 - (0 : Int) : Int) + 1).toNat : Nat) : Int) by omega)
      · skip
        refine T_ld 23 (.int (i32 (-1))) rfl (fun _ => rfl) ?_
        refine T_ret rfl (fun _ => rfl) ?_
        exact ⟨(mO m [] []), (-1), hT, (fr_m fr_0 rfl rfl), ⟨by omega, by omega⟩, rfl⟩
def fF_sp_settle : List Nat := [226]
def fA_sp_settle : List Nat := [59, 60, 61, 62, 63, 64, 65]
def Q_sp_settle (m : mR) (c : Nat → Option am_C) (N : Nat) (n : Int) (x : Int) (y : Int) : ag_Re af_T → Prop := fun R => (∃ (M : mR) (r : Int), KTy M ∧ fr fF_sp_settle fA_sp_settle m M ∧ ((-1) ≤ r ∧ r ≤ 47) ∧ (r = -1 → 1 ≤ (M.1 226)) ∧ R = (.inl (some (.int (i32 r))), (khp M c, N), 0, 0))
set_option maxHeartbeats 3000000 in
theorem c_sp_settle (w : wX) (m : mR) (c : Nat → Option am_C) (N D : Nat) (hD : 6 ≤ D) (hT : KTy m) (n : Int) (x : Int) (y : Int) (qn : R32 n) (qx : R32 x) (qy : R32 y) (hNK : NKp (m.2 18) (m.2 19)) (hDE : DEp (m.1 224) (m.2 45) (m.2 46) (m.2 47) (m.2 49)) (hAC : AcP (m.1 223) (m.1 224) (m.2 43) (m.2 44)) (hTL : TLp (m.1 219) (m.2 73) (m.2 83) (m.1 223)) (hTD : LTp (m.1 219) (m.2 74) (m.1 223)) (hSP : SPp (m.1 225) (m.2 52) (m.2 58) (m.2 55) (m.2 56) (m.1 219) (m.1 224)) (p6 : 1 ≤ n ∧ n ≤ 12) (p7 : 0 ≤ x ∧ 0 ≤ y) : TC w D 150 [.ref 59, .ref 12, .int (i32 n), .int (i32 x), .int (i32 y)] (khp m c, N) (Q_sp_settle m c N n x y) := by
  obtain ⟨D, rfl⟩ : ∃ k, D = k + 1 := ⟨D - 1, by omega⟩
  obtain ⟨qna, qnb⟩ := id qn
  obtain ⟨qxa, qxb⟩ := id qx
  obtain ⟨qya, qyb⟩ := id qy
  have f226 : 0 ≤ m.1 226 ∧ m.1 226 ≤ 12 := hT.1 226
  have f219 : 0 ≤ m.1 219 ∧ m.1 219 ≤ 8 := hT.1 219
  have f223 : 0 ≤ m.1 223 ∧ m.1 223 ≤ 16 := hT.1 223
  have f224 : 0 ≤ m.1 224 ∧ m.1 224 ≤ 240 := hT.1 224
  have f225 : 0 ≤ m.1 225 ∧ m.1 225 ≤ 48 := hT.1 225
  refine Tc_of rfl ?_
  rw [show (khp m c, N) = (khp (mO m [] []) c, N) from by rw [mO_nil m]]
  show TT w D pm_150 (0, [(0, .ref 59), (1, .ref 12), (2, .int (i32 n)), (3, .int (i32 x)), (4, .int (i32 y))], [], (khp (mO m [] []) c, N), 0, 0) (Q_sp_settle m c N n x y)
  refine T_ld 1 (.ref 59) rfl (fun _ => rfl) ?_
  refine K_gf 4 (.ref 71) rfl rfl kd_59 rfl rfl rfl ?_
  refine T_ld 5 (.int (i32 0)) rfl (fun _ => rfl) ?_
  refine T_callx 8 25 [.ref 71, .int (i32 0)] [] rfl (fun _ => rfl) rfl rfl (c_fill_sp_stageSteps w (mO m [] []) c N D (by omega) hT 0 ⟨by decide, by decide⟩ (show 0 ≤ (0 : Int) ∧ (0 : Int) ≤ 48 by omega)) (fun rr1 k2 => ?_)
  obtain ⟨m3, Tm3, Fm3, rfl⟩ := k2
  refine Or.inl ⟨_, _, _, _, rfl, ?_⟩
  refine K_nb (st' := []) rfl ?_
  refine T_ld 9 (.ref 59) rfl (fun _ => rfl) ?_
  refine K_gf 12 (.ref 72) rfl rfl kd_59 rfl rfl rfl ?_
  refine T_ld 13 (.int (i32 0)) rfl (fun _ => rfl) ?_
  refine T_callx 16 25 [.ref 72, .int (i32 0)] [] rfl (fun _ => rfl) rfl rfl (c_fill_sp_stageMemory w (mO m3 [] []) c N D (by omega) Tm3 0 ⟨by decide, by decide⟩ (show 0 ≤ (0 : Int) ∧ (0 : Int) ≤ 0 by omega)) (fun rr4 k5 => ?_)
  obtain ⟨m6, Tm6, Fm6, h7, rfl⟩ := k5
  refine Or.inl ⟨_, _, _, _, rfl, ?_⟩
  refine K_nb (st' := []) rfl ?_
  replace h7 : ∀ j, 0 ≤ j → j < 12 → (m6.2 64) j = (0 : Int) := h7
  have hFzM := h7
  refine T_ld 17 (.ref 59) rfl (fun _ => rfl) ?_
  refine K_gf 20 (.ref 73) rfl rfl kd_59 rfl rfl rfl ?_
  refine T_ld 21 (.int (i32 0)) rfl (fun _ => rfl) ?_
  refine T_callx 24 25 [.ref 73, .int (i32 0)] [] rfl (fun _ => rfl) rfl rfl (c_fill_sp_stageWires w (mO m6 [] []) c N D (by omega) Tm6 0 ⟨by decide, by decide⟩ (show 0 ≤ (0 : Int) ∧ (0 : Int) ≤ 0 by omega)) (fun rr8 k9 => ?_)
  obtain ⟨m10, Tm10, Fm10, h11, rfl⟩ := k9
  refine Or.inl ⟨_, _, _, _, rfl, ?_⟩
  refine K_nb (st' := []) rfl ?_
  replace h11 : ∀ j, 0 ≤ j → j < 12 → (m10.2 65) j = (0 : Int) := h11
  have hFzW := h11
  refine T_ld 25 (.int (i32 1)) rfl (fun _ => rfl) ?_
  refine T_sto 27 [(5, .int (i32 1)), (0, .ref 59), (1, .ref 12), (2, .int (i32 n)), (3, .int (i32 x)), (4, .int (i32 y))] rfl (fun _ => rfl) ?_
  refine T_ld 28 (.int (i32 0)) rfl (fun _ => rfl) ?_
  refine T_sto 30 [(6, .int (i32 0)), (5, .int (i32 1)), (0, .ref 59), (1, .ref 12), (2, .int (i32 n)), (3, .int (i32 x)), (4, .int (i32 y))] rfl (fun _ => rfl) ?_
  have L30_15 : ∀ (n24 : Nat) (v12 : Int) (v13 : Int) (m14 : mR), (R32 v12) → (R32 v13) → KTy m14 → fr [] [59, 60, 61, 62, 63, 64, 65] (mO m10 [] []) m14 → (0 ≤ v13) → (0 ≤ v13 ∧ v13 ≤ (m.1 225)) → (1 ≤ v12 ∧ v12 ≤ 12) → (∀ g, 0 ≤ g → g < 12 → (m14.2 64) g ≤ 1200000 * v13 ∧ (m14.2 65) g ≤ 256 * v13) → 60 - v13 < (n24 : Int) → TT w D pm_150 (30, [(0, .ref 59), (1, .ref 12), (2, .int (i32 n)), (3, .int (i32 x)), (4, .int (i32 y)), (5, .int (i32 v12)), (6, .int (i32 v13))], [], (khp (mO m14 [] []) c, N), 0, 0) (Q_sp_settle m c N n x y) := by
    intro n24
    induction n24 with
    | zero =>
      intro v12 v13 m14 q20 q21 Tm14 Fm14 ic16 ic17 ic18 ic19 hmu
      obtain ⟨q20a, q20b⟩ := id q20
      obtain ⟨q21a, q21b⟩ := id q21
      have hMW := ic19
      exfalso
      omega
    | succ n24 ih =>
      intro v12 v13 m14 q20 q21 Tm14 Fm14 ic16 ic17 ic18 ic19 hmu
      obtain ⟨q20a, q20b⟩ := id q20
      obtain ⟨q21a, q21b⟩ := id q21
      have hMW := ic19
      have ih25 := ih
      refine T_ld 32 (.int (i32 v13)) rfl (fun _ => rfl) ?_
      refine T_ld 33 (.ref 59) rfl (fun _ => rfl) ?_
      refine K_gf 36 (.int (i32 (m.1 225))) rfl rfl kd_59 rfl (kval_c2 (k := 225) (F := fun x => .int (i32 x)) rfl (show (m14.1 225) = (m.1 225) from ((fr1 Fm14 225 rfl).trans ((fr1 Fm10 225 rfl).trans ((fr1 Fm6 225 rfl).trans (fr1 Fm3 225 rfl)))))) rfl ?_
      refine T_icmp 199 39 rfl rfl rfl (r32 (by omega) (by omega)) (r32 (by omega) (by omega)) (fun (h26 : (m.1 225) ≤ v13) => ?_) (fun (h26 : ¬ ((m.1 225) ≤ v13)) => ?_)
      · skip
        refine T_ld 200 (.ref 59) rfl (fun _ => rfl) ?_
        refine T_ld 202 (.int (i32 v12)) rfl (fun _ => rfl) ?_
        refine K_pf (l' := [(226, v12)]) 205 v12 rfl rfl kd_59 rfl rfl rfl rfl rfl rfl rfl ?_
        have g27 : 0 ≤ v12 ∧ v12 ≤ 12 := ⟨by omega, by omega⟩
        refine T_ld 206 (.int (i32 (-1))) rfl (fun _ => rfl) ?_
        refine T_ret rfl (fun _ => rfl) ?_
        exact ⟨(mO m14 [(226, v12)] []), (-1), (KTy_mO Tm14 rfl rfl ⟨g27, trivial⟩ trivial), (fr_m (fr_s Fm14 (fr_m (fr_s Fm10 (fr_m (fr_s Fm6 (fr_m (fr_s Fm3 (fr_m fr_0 rfl rfl) rfl rfl) rfl rfl) rfl rfl) rfl rfl) rfl rfl) rfl rfl) rfl rfl) rfl rfl), ⟨by omega, by omega⟩, (show (-1 : Int) = -1 → 1 ≤ v12 by omega), rfl⟩
      · skip
        refine T_ld 40 (.ref 59) rfl (fun _ => rfl) ?_
        refine T_ld 41 (.ref 12) rfl (fun _ => rfl) ?_
        refine T_ld 43 (.int (i32 v13)) rfl (fun _ => rfl) ?_
        refine T_callx 46 151 [.ref 59, .ref 12, .int (i32 v13)] [] rfl (fun _ => rfl) rfl rfl (c_sp_gather w (mO m14 [] []) c N D (by omega) Tm14 v13 (r32 (by omega) (by omega)) (show NKp (m14.2 18) (m14.2 19) by rewrite [(show (m14.2 18) = (m.2 18) from ((fr2 Fm14 18 rfl).trans ((fr2 Fm10 18 rfl).trans ((fr2 Fm6 18 rfl).trans (fr2 Fm3 18 rfl))))), (show (m14.2 19) = (m.2 19) from ((fr2 Fm14 19 rfl).trans ((fr2 Fm10 19 rfl).trans ((fr2 Fm6 19 rfl).trans (fr2 Fm3 19 rfl)))))]; exact hNK) (show DEp (m14.1 224) (m14.2 45) (m14.2 46) (m14.2 47) (m14.2 49) by rewrite [(show (m14.1 224) = (m.1 224) from ((fr1 Fm14 224 rfl).trans ((fr1 Fm10 224 rfl).trans ((fr1 Fm6 224 rfl).trans (fr1 Fm3 224 rfl))))), (show (m14.2 45) = (m.2 45) from ((fr2 Fm14 45 rfl).trans ((fr2 Fm10 45 rfl).trans ((fr2 Fm6 45 rfl).trans (fr2 Fm3 45 rfl))))), (show (m14.2 46) = (m.2 46) from ((fr2 Fm14 46 rfl).trans ((fr2 Fm10 46 rfl).trans ((fr2 Fm6 46 rfl).trans (fr2 Fm3 46 rfl))))), (show (m14.2 47) = (m.2 47) from ((fr2 Fm14 47 rfl).trans ((fr2 Fm10 47 rfl).trans ((fr2 Fm6 47 rfl).trans (fr2 Fm3 47 rfl))))), (show (m14.2 49) = (m.2 49) from ((fr2 Fm14 49 rfl).trans ((fr2 Fm10 49 rfl).trans ((fr2 Fm6 49 rfl).trans (fr2 Fm3 49 rfl)))))]; exact hDE) (show AcP (m14.1 223) (m14.1 224) (m14.2 43) (m14.2 44) by rewrite [(show (m14.1 223) = (m.1 223) from ((fr1 Fm14 223 rfl).trans ((fr1 Fm10 223 rfl).trans ((fr1 Fm6 223 rfl).trans (fr1 Fm3 223 rfl))))), (show (m14.1 224) = (m.1 224) from ((fr1 Fm14 224 rfl).trans ((fr1 Fm10 224 rfl).trans ((fr1 Fm6 224 rfl).trans (fr1 Fm3 224 rfl))))), (show (m14.2 43) = (m.2 43) from ((fr2 Fm14 43 rfl).trans ((fr2 Fm10 43 rfl).trans ((fr2 Fm6 43 rfl).trans (fr2 Fm3 43 rfl))))), (show (m14.2 44) = (m.2 44) from ((fr2 Fm14 44 rfl).trans ((fr2 Fm10 44 rfl).trans ((fr2 Fm6 44 rfl).trans (fr2 Fm3 44 rfl)))))]; exact hAC) (show TLp (m14.1 219) (m14.2 73) (m14.2 83) (m14.1 223) by rewrite [(show (m14.1 219) = (m.1 219) from ((fr1 Fm14 219 rfl).trans ((fr1 Fm10 219 rfl).trans ((fr1 Fm6 219 rfl).trans (fr1 Fm3 219 rfl))))), (show (m14.2 73) = (m.2 73) from ((fr2 Fm14 73 rfl).trans ((fr2 Fm10 73 rfl).trans ((fr2 Fm6 73 rfl).trans (fr2 Fm3 73 rfl))))), (show (m14.2 83) = (m.2 83) from ((fr2 Fm14 83 rfl).trans ((fr2 Fm10 83 rfl).trans ((fr2 Fm6 83 rfl).trans (fr2 Fm3 83 rfl))))), (show (m14.1 223) = (m.1 223) from ((fr1 Fm14 223 rfl).trans ((fr1 Fm10 223 rfl).trans ((fr1 Fm6 223 rfl).trans (fr1 Fm3 223 rfl)))))]; exact hTL) (show LTp (m14.1 219) (m14.2 74) (m14.1 223) by rewrite [(show (m14.1 219) = (m.1 219) from ((fr1 Fm14 219 rfl).trans ((fr1 Fm10 219 rfl).trans ((fr1 Fm6 219 rfl).trans (fr1 Fm3 219 rfl))))), (show (m14.2 74) = (m.2 74) from ((fr2 Fm14 74 rfl).trans ((fr2 Fm10 74 rfl).trans ((fr2 Fm6 74 rfl).trans (fr2 Fm3 74 rfl))))), (show (m14.1 223) = (m.1 223) from ((fr1 Fm14 223 rfl).trans ((fr1 Fm10 223 rfl).trans ((fr1 Fm6 223 rfl).trans (fr1 Fm3 223 rfl)))))]; exact hTD) (show 0 ≤ v13 ∧ v13 < (m14.1 225) by rewrite [(show (m14.1 225) = (m.1 225) from ((fr1 Fm14 225 rfl).trans ((fr1 Fm10 225 rfl).trans ((fr1 Fm6 225 rfl).trans (fr1 Fm3 225 rfl)))))]; omega) (show SPp (m14.1 225) (m14.2 52) (m14.2 58) (m14.2 55) (m14.2 56) (m14.1 219) (m14.1 224) by rewrite [(show (m14.1 225) = (m.1 225) from ((fr1 Fm14 225 rfl).trans ((fr1 Fm10 225 rfl).trans ((fr1 Fm6 225 rfl).trans (fr1 Fm3 225 rfl))))), (show (m14.2 52) = (m.2 52) from ((fr2 Fm14 52 rfl).trans ((fr2 Fm10 52 rfl).trans ((fr2 Fm6 52 rfl).trans (fr2 Fm3 52 rfl))))), (show (m14.2 58) = (m.2 58) from ((fr2 Fm14 58 rfl).trans ((fr2 Fm10 58 rfl).trans ((fr2 Fm6 58 rfl).trans (fr2 Fm3 58 rfl))))), (show (m14.2 55) = (m.2 55) from ((fr2 Fm14 55 rfl).trans ((fr2 Fm10 55 rfl).trans ((fr2 Fm6 55 rfl).trans (fr2 Fm3 55 rfl))))), (show (m14.2 56) = (m.2 56) from ((fr2 Fm14 56 rfl).trans ((fr2 Fm10 56 rfl).trans ((fr2 Fm6 56 rfl).trans (fr2 Fm3 56 rfl))))), (show (m14.1 219) = (m.1 219) from ((fr1 Fm14 219 rfl).trans ((fr1 Fm10 219 rfl).trans ((fr1 Fm6 219 rfl).trans (fr1 Fm3 219 rfl))))), (show (m14.1 224) = (m.1 224) from ((fr1 Fm14 224 rfl).trans ((fr1 Fm10 224 rfl).trans ((fr1 Fm6 224 rfl).trans (fr1 Fm3 224 rfl)))))]; exact hSP)) (fun rr28 k29 => ?_)
        obtain ⟨m30, Tm30, Fm30, rfl⟩ := k29
        refine Or.inl ⟨_, _, _, _, rfl, ?_⟩
        refine K_nb (st' := []) rfl ?_
        refine T_ld 47 (.ref 59) rfl (fun _ => rfl) ?_
        refine K_gf 50 (.ref 63) rfl rfl kd_59 rfl rfl rfl ?_
        refine T_ld 52 (.int (i32 v13)) rfl (fun _ => rfl) ?_
        refine K_iald 53 55 (m.2 55) rfl rfl rfl (by omega) (show v13 < (48 : Int) by omega) (show (m30.2 55) = (m.2 55) from ((fr2 Fm30 55 rfl).trans ((fr2 Fm14 55 rfl).trans ((fr2 Fm10 55 rfl).trans ((fr2 Fm6 55 rfl).trans (fr2 Fm3 55 rfl)))))) ?_
        have e31 : (-1) ≤ m.2 55 v13 ∧ m.2 55 v13 ≤ 7 := hT.2.1 55 v13
        refine T_ld 54 (.int (i32 (-1))) rfl (fun _ => rfl) ?_
        refine T_icmp 61 57 rfl rfl rfl (r32 (by omega) (by omega)) ⟨by decide, by decide⟩ (fun (h32 : (m.2 55) v13 ≠ (-1)) => ?_) (fun (h32 : ¬ ((m.2 55) v13 ≠ (-1))) => ?_)
        · skip
          refine T_ld 62 (.ref 12) rfl (fun _ => rfl) ?_
          refine K_gf 65 (.ref 21) rfl rfl kd_12 rfl rfl rfl ?_
          refine T_ld 66 (.ref 59) rfl (fun _ => rfl) ?_
          refine K_gf 69 (.ref 63) rfl rfl kd_59 rfl rfl rfl ?_
          refine T_ld 71 (.int (i32 v13)) rfl (fun _ => rfl) ?_
          refine K_iald 72 55 (m.2 55) rfl rfl rfl (by omega) (show v13 < (48 : Int) by omega) (show (m30.2 55) = (m.2 55) from ((fr2 Fm30 55 rfl).trans ((fr2 Fm14 55 rfl).trans ((fr2 Fm10 55 rfl).trans ((fr2 Fm6 55 rfl).trans (fr2 Fm3 55 rfl)))))) ?_
          have e33 : (-1) ≤ m.2 55 v13 ∧ m.2 55 v13 ≤ 7 := hT.2.1 55 v13
          refine K_aatb 73 rfl (by omega) (by omega) rfl ?_
          refine T_sto 75 [(7, .ref (tbr ((m.2 55) v13))), (0, .ref 59), (1, .ref 12), (2, .int (i32 n)), (3, .int (i32 x)), (4, .int (i32 y)), (5, .int (i32 v12)), (6, .int (i32 v13))] rfl (fun _ => rfl) ?_
          refine T_ld 77 (.ref (tbr ((m.2 55) v13))) rfl (fun _ => rfl) ?_
          refine T_pop 84 rfl (fun _ => rfl) ?_
          refine T_ld 86 (.ref (tbr ((m.2 55) v13))) rfl (fun _ => rfl) ?_
          refine T_ld 87 (.ref 12) rfl (fun _ => rfl) ?_
          refine K_gf 90 (.ref 45) rfl rfl kd_12 rfl rfl rfl ?_
          refine T_callx 93 156 [.ref (tbr ((m.2 55) v13)), .ref 45] [] rfl (inv_vt (args := [.ref 45]) (khp_t0 _ (by omega) (by omega)) rfl rfl rfl) rfl rfl (c_tb_memory w (mO m30 [] []) c N D (by omega) Tm30 ((m.2 55) v13) (r32 (by omega) (by omega)) (show 0 ≤ ((m.2 55) v13) ∧ ((m.2 55) v13) ≤ 7 by omega)) (fun rr34 k35 => ?_)
          obtain ⟨x36, g37, rfl⟩ := k35
          refine Or.inl ⟨_, _, _, _, rfl, ?_⟩
          refine T_ns (st' := [.int (i32 x36)]) rfl ?_
          obtain ⟨g37a, g37b⟩ := g37
          refine T_sto 95 [(8, .int (i32 x36)), (7, .ref (tbr ((m.2 55) v13))), (0, .ref 59), (1, .ref 12), (2, .int (i32 n)), (3, .int (i32 x)), (4, .int (i32 y)), (5, .int (i32 v12)), (6, .int (i32 v13))] rfl (fun _ => rfl) ?_
          refine T_ld 97 (.ref (tbr ((m.2 55) v13))) rfl (fun _ => rfl) ?_
          refine T_pop 104 rfl (fun _ => rfl) ?_
          refine T_ld 106 (.ref (tbr ((m.2 55) v13))) rfl (fun _ => rfl) ?_
          refine T_callx 109 158 [.ref (tbr ((m.2 55) v13))] [] rfl (inv_vt (args := []) (khp_t0 _ (by omega) (by omega)) rfl rfl rfl) rfl rfl (c_tb_wires w (mO m30 [] []) c N D (by omega) Tm30 ((m.2 55) v13) (r32 (by omega) (by omega)) (show 0 ≤ ((m.2 55) v13) ∧ ((m.2 55) v13) ≤ 7 by omega)) (fun rr38 k39 => ?_)
          obtain ⟨x40, g41, rfl⟩ := k39
          refine Or.inl ⟨_, _, _, _, rfl, ?_⟩
          refine T_ns (st' := [.int (i32 x40)]) rfl ?_
          obtain ⟨g41a, g41b⟩ := g41
          refine T_sto 111 [(9, .int (i32 x40)), (8, .int (i32 x36)), (7, .ref (tbr ((m.2 55) v13))), (0, .ref 59), (1, .ref 12), (2, .int (i32 n)), (3, .int (i32 x)), (4, .int (i32 y)), (5, .int (i32 v12)), (6, .int (i32 v13))] rfl (fun _ => rfl) ?_
          refine T_ld 112 (.ref 59) rfl (fun _ => rfl) ?_
          refine T_ld 114 (.int (i32 v13)) rfl (fun _ => rfl) ?_
          refine T_ld 115 (.int (i32 n)) rfl (fun _ => rfl) ?_
          refine T_ld 116 (.int (i32 x)) rfl (fun _ => rfl) ?_
          refine T_ld 118 (.int (i32 x36)) rfl (fun _ => rfl) ?_
          refine T_isub 119 rfl rfl ?_
          refine T_ld 121 (.int (i32 y)) rfl (fun _ => rfl) ?_
          refine T_ld 123 (.int (i32 x40)) rfl (fun _ => rfl) ?_
          refine T_isub 124 rfl rfl ?_
          refine T_callx 127 159 [.ref 59, .int (i32 v13), .int (i32 n), .int (i32 (x - x36)), .int (i32 (y - x40))] [] rfl (fun _ => rfl) rfl rfl (c_sp_earliest w (mO m30 [] []) c N D (by omega) Tm30 v13 n (x - x36) (y - x40) (r32 (by omega) (by omega)) (r32 (by omega) (by omega)) (r32 (by omega) (by omega)) (r32 (by omega) (by omega)) (show 0 ≤ v13 ∧ v13 ≤ 47 by omega) (show 1 ≤ n ∧ n ≤ 12 by omega)) (fun rr42 k43 => ?_)
          obtain ⟨x44, g45, h46, rfl⟩ := k43
          refine Or.inl ⟨_, _, _, _, rfl, ?_⟩
          refine T_ns (st' := [.int (i32 x44)]) rfl ?_
          obtain ⟨g45a, g45b⟩ := g45
          replace h46 : 0 ≤ x44 → (m30.2 63) x44 < 8 := h46
          rewrite [(show (m30.2 63) = (m14.2 63) from (fr2 Fm30 63 rfl))] at h46
          refine T_sto 129 [(10, .int (i32 x44)), (9, .int (i32 x40)), (8, .int (i32 x36)), (7, .ref (tbr ((m.2 55) v13))), (0, .ref 59), (1, .ref 12), (2, .int (i32 n)), (3, .int (i32 x)), (4, .int (i32 y)), (5, .int (i32 v12)), (6, .int (i32 v13))] rfl (fun _ => rfl) ?_
          refine T_ld 131 (.int (i32 x44)) rfl (fun _ => rfl) ?_
          refine T_ld 132 (.int (i32 (-1))) rfl (fun _ => rfl) ?_
          refine T_icmp 138 135 rfl rfl rfl (r32 (by omega) (by omega)) ⟨by decide, by decide⟩ (fun (h47 : x44 ≠ (-1)) => ?_) (fun (h47 : ¬ (x44 ≠ (-1))) => ?_)
          · skip
            have hMg := hMW x44 (by omega) (by omega)
            refine T_ld 139 (.ref 59) rfl (fun _ => rfl) ?_
            refine K_gf 142 (.ref 67) rfl rfl kd_59 rfl rfl rfl ?_
            refine T_ld 144 (.int (i32 v13)) rfl (fun _ => rfl) ?_
            refine T_ld 146 (.int (i32 x44)) rfl (fun _ => rfl) ?_
            have G48 : ∀ j, 0 ≤ (upI (m14.2 59) v13 x44) j ∧ (upI (m14.2 59) v13 x44) j ≤ 11 := upI_rg (Tm14.2.1 59) ⟨by omega, by omega⟩
            refine K_iast (a' := [(59, upI (m14.2 59) v13 x44)]) 147 59 (m14.2 59) rfl rfl rfl (by omega) (show v13 < (48 : Int) by omega) (show (m30.2 59) = (m14.2 59) from (fr2 Fm30 59 rfl)) rfl ?_
            refine T_ld 148 (.ref 59) rfl (fun _ => rfl) ?_
            refine K_gf 151 (.ref 71) rfl rfl kd_59 rfl rfl rfl ?_
            refine T_ld 153 (.int (i32 x44)) rfl (fun _ => rfl) ?_
            refine T_dup2 154 rfl (fun _ => rfl) ?_
            refine K_iald 155 63 (m14.2 63) rfl rfl rfl (by omega) (show x44 < (12 : Int) by omega) (show (m30.2 63) = (m14.2 63) from (fr2 Fm30 63 rfl)) ?_
            have e49 : 0 ≤ (m14.2 63) x44 ∧ (m14.2 63) x44 ≤ 48 := (Tm14.2.1 63) x44
            refine T_ld 156 (.int (i32 1)) rfl (fun _ => rfl) ?_
            refine T_iadd 157 rfl rfl ?_
            have G50 : ∀ j, 0 ≤ (upI (m14.2 63) x44 (((m14.2 63) x44) + 1)) j ∧ (upI (m14.2 63) x44 (((m14.2 63) x44) + 1)) j ≤ 48 := upI_rg (Tm14.2.1 63) ⟨by omega, by omega⟩
            refine K_iast (a' := [(59, upI (m14.2 59) v13 x44), (63, upI (m14.2 63) x44 (((m14.2 63) x44) + 1))]) 158 63 (m14.2 63) rfl rfl rfl (by omega) (show x44 < (12 : Int) by omega) (show (m30.2 63) = (m14.2 63) from (fr2 Fm30 63 rfl)) rfl ?_
            refine T_ld 159 (.ref 59) rfl (fun _ => rfl) ?_
            refine K_gf 162 (.ref 72) rfl rfl kd_59 rfl rfl rfl ?_
            refine T_ld 164 (.int (i32 x44)) rfl (fun _ => rfl) ?_
            refine T_dup2 165 rfl (fun _ => rfl) ?_
            refine K_iald 166 64 (m14.2 64) rfl rfl rfl (by omega) (show x44 < (12 : Int) by omega) (show (m30.2 64) = (m14.2 64) from (fr2 Fm30 64 rfl)) ?_
            have e51 : 0 ≤ (m14.2 64) x44 ∧ (m14.2 64) x44 ≤ 60000000 := (Tm14.2.1 64) x44
            refine T_ld 168 (.int (i32 x36)) rfl (fun _ => rfl) ?_
            refine T_iadd 169 rfl rfl ?_
            have G52 : ∀ j, 0 ≤ (upI (m14.2 64) x44 (((m14.2 64) x44) + x36)) j ∧ (upI (m14.2 64) x44 (((m14.2 64) x44) + x36)) j ≤ 60000000 := upI_rg (Tm14.2.1 64) ⟨by omega, by omega⟩
            refine K_iast (a' := [(59, upI (m14.2 59) v13 x44), (63, upI (m14.2 63) x44 (((m14.2 63) x44) + 1)), (64, upI (m14.2 64) x44 (((m14.2 64) x44) + x36))]) 170 64 (m14.2 64) rfl rfl rfl (by omega) (show x44 < (12 : Int) by omega) (show (m30.2 64) = (m14.2 64) from (fr2 Fm30 64 rfl)) rfl ?_
            refine T_ld 171 (.ref 59) rfl (fun _ => rfl) ?_
            refine K_gf 174 (.ref 73) rfl rfl kd_59 rfl rfl rfl ?_
            refine T_ld 176 (.int (i32 x44)) rfl (fun _ => rfl) ?_
            refine T_dup2 177 rfl (fun _ => rfl) ?_
            refine K_iald 178 65 (m14.2 65) rfl rfl rfl (by omega) (show x44 < (12 : Int) by omega) (show (m30.2 65) = (m14.2 65) from (fr2 Fm30 65 rfl)) ?_
            have e53 : 0 ≤ (m14.2 65) x44 ∧ (m14.2 65) x44 ≤ 200000 := (Tm14.2.1 65) x44
            refine T_ld 180 (.int (i32 x40)) rfl (fun _ => rfl) ?_
            refine T_iadd 181 rfl rfl ?_
            have G54 : ∀ j, 0 ≤ (upI (m14.2 65) x44 (((m14.2 65) x44) + x40)) j ∧ (upI (m14.2 65) x44 (((m14.2 65) x44) + x40)) j ≤ 200000 := upI_rg (Tm14.2.1 65) ⟨by omega, by omega⟩
            refine K_iast (a' := [(59, upI (m14.2 59) v13 x44), (63, upI (m14.2 63) x44 (((m14.2 63) x44) + 1)), (64, upI (m14.2 64) x44 (((m14.2 64) x44) + x36)), (65, upI (m14.2 65) x44 (((m14.2 65) x44) + x40))]) 182 65 (m14.2 65) rfl rfl rfl (by omega) (show x44 < (12 : Int) by omega) (show (m30.2 65) = (m14.2 65) from (fr2 Fm30 65 rfl)) rfl ?_
            refine T_ld 184 (.int (i32 v12)) rfl (fun _ => rfl) ?_
            refine T_ld 186 (.int (i32 x44)) rfl (fun _ => rfl) ?_
            refine T_ld 187 (.int (i32 1)) rfl (fun _ => rfl) ?_
            refine T_iadd 188 rfl rfl ?_
            refine T_callx 191 61 [.int (i32 v12), .int (i32 (x44 + 1))] [] rfl (fun _ => rfl) rfl rfl (c_Math_max w (mO m30 [] [(59, upI (m14.2 59) v13 x44), (63, upI (m14.2 63) x44 (((m14.2 63) x44) + 1)), (64, upI (m14.2 64) x44 (((m14.2 64) x44) + x36)), (65, upI (m14.2 65) x44 (((m14.2 65) x44) + x40))]) c N D (by omega) (KTy_mO Tm30 rfl rfl trivial ⟨G48, G50, G52, G54, trivial⟩) v12 (x44 + 1) (r32 (by omega) (by omega)) (r32 (by omega) (by omega))) (fun rr55 k56 => ?_)
            obtain ⟨x57, g58, h59, h60, rfl⟩ := k56
            refine Or.inl ⟨_, _, _, _, rfl, ?_⟩
            refine T_ns (st' := [.int (i32 x57)]) rfl ?_
            obtain ⟨g58a, g58b⟩ := g58
            replace h59 : x57 = v12 ∨ x57 = (x44 + 1) := h59
            replace h60 : v12 ≤ x57 ∧ (x44 + 1) ≤ x57 := h60
            refine T_sto 193 [(5, .int (i32 x57)), (10, .int (i32 x44)), (9, .int (i32 x40)), (8, .int (i32 x36)), (7, .ref (tbr ((m.2 55) v13))), (0, .ref 59), (1, .ref 12), (2, .int (i32 n)), (3, .int (i32 x)), (4, .int (i32 y)), (6, .int (i32 v13))] rfl (fun _ => rfl) ?_
            refine T_iinc 196 [(6, .int (i32 (v13 + 1))), (5, .int (i32 x57)), (10, .int (i32 x44)), (9, .int (i32 x40)), (8, .int (i32 x36)), (7, .ref (tbr ((m.2 55) v13))), (0, .ref 59), (1, .ref 12), (2, .int (i32 n)), (3, .int (i32 x)), (4, .int (i32 y))] rfl rfl (by decide) rfl rfl ?_
            refine T_goto 30 rfl (fun _ => rfl) ?_
            refine Tm_lv (a := [(0, .ref 59), (1, .ref 12), (2, .int (i32 n)), (3, .int (i32 x)), (4, .int (i32 y)), (5, .int (i32 x57)), (6, .int (i32 (v13 + 1)))]) rfl rfl ⟨rfl, rfl, rfl, rfl, rfl, rfl, rfl, trivial⟩ ?_
            exact ih25 x57 (v13 + 1) (mO m30 [] [(59, upI (m14.2 59) v13 x44), (63, upI (m14.2 63) x44 (((m14.2 63) x44) + 1)), (64, upI (m14.2 64) x44 (((m14.2 64) x44) + x36)), (65, upI (m14.2 65) x44 (((m14.2 65) x44) + x40))]) (r32 (by omega) (by omega)) (r32 (by omega) (by omega)) (KTy_mO Tm30 rfl rfl trivial ⟨G48, G50, G52, G54, trivial⟩) (fr_m (fr_s Fm30 (fr_m (fr_s Fm14 (fr_m fr_0 rfl rfl) rfl rfl) rfl rfl) rfl rfl) rfl rfl) (show 0 ≤ (v13 + 1) by omega) (show 0 ≤ (v13 + 1) ∧ (v13 + 1) ≤ (m.1 225) by omega) (show 1 ≤ x57 ∧ x57 ≤ 12 by omega) (show ∀ g, 0 ≤ g → g < 12 → (upI (m14.2 64) x44 (((m14.2 64) x44) + x36)) g ≤ 1200000 * (v13 + 1) ∧ (upI (m14.2 65) x44 (((m14.2 65) x44) + x40)) g ≤ 256 * (v13 + 1) by first | (intro g a b; have := hFzM g a b; have := hFzW g a b; omega) | (intro g a b; have := hMW g a b; unfold upI; split <;> omega)) (show 60 - (v13 + 1) < (n24 : Int) by omega)
          · skip
            refine T_ld 137 (.int (i32 v13)) rfl (fun _ => rfl) ?_
            refine T_ret rfl (fun _ => rfl) ?_
            exact ⟨(mO m30 [] []), v13, Tm30, (fr_m (fr_s Fm30 (fr_m (fr_s Fm14 (fr_m (fr_s Fm10 (fr_m (fr_s Fm6 (fr_m (fr_s Fm3 (fr_m fr_0 rfl rfl) rfl rfl) rfl rfl) rfl rfl) rfl rfl) rfl rfl) rfl rfl) rfl rfl) rfl rfl) rfl rfl) rfl rfl), ⟨by omega, by omega⟩, (show v13 = -1 → 1 ≤ (m30.1 226) by rewrite [(show (m30.1 226) = (m.1 226) from ((fr1 Fm30 226 rfl).trans ((fr1 Fm14 226 rfl).trans ((fr1 Fm10 226 rfl).trans ((fr1 Fm6 226 rfl).trans (fr1 Fm3 226 rfl))))))]; omega), rfl⟩
        · skip
          refine T_ld 58 .null rfl (fun _ => rfl) ?_
          refine T_goto 73 rfl (fun _ => rfl) ?_
          refine T_sto 75 [(7, .null), (0, .ref 59), (1, .ref 12), (2, .int (i32 n)), (3, .int (i32 x)), (4, .int (i32 y)), (5, .int (i32 v12)), (6, .int (i32 v13))] rfl (fun _ => rfl) ?_
          refine T_ld 77 (.null) rfl (fun _ => rfl) ?_
          refine T_pop 80 rfl (fun _ => rfl) ?_
          refine T_ld 81 (.int (i32 0)) rfl (fun _ => rfl) ?_
          refine T_goto 93 rfl (fun _ => rfl) ?_
          refine T_sto 95 [(8, .int (i32 0)), (7, .null), (0, .ref 59), (1, .ref 12), (2, .int (i32 n)), (3, .int (i32 x)), (4, .int (i32 y)), (5, .int (i32 v12)), (6, .int (i32 v13))] rfl (fun _ => rfl) ?_
          refine T_ld 97 (.null) rfl (fun _ => rfl) ?_
          refine T_pop 100 rfl (fun _ => rfl) ?_
          refine T_ld 101 (.int (i32 0)) rfl (fun _ => rfl) ?_
          refine T_goto 109 rfl (fun _ => rfl) ?_
          refine T_sto 111 [(9, .int (i32 0)), (8, .int (i32 0)), (7, .null), (0, .ref 59), (1, .ref 12), (2, .int (i32 n)), (3, .int (i32 x)), (4, .int (i32 y)), (5, .int (i32 v12)), (6, .int (i32 v13))] rfl (fun _ => rfl) ?_
          refine T_ld 112 (.ref 59) rfl (fun _ => rfl) ?_
          refine T_ld 114 (.int (i32 v13)) rfl (fun _ => rfl) ?_
          refine T_ld 115 (.int (i32 n)) rfl (fun _ => rfl) ?_
          refine T_ld 116 (.int (i32 x)) rfl (fun _ => rfl) ?_
          refine T_ld 118 (.int (i32 0)) rfl (fun _ => rfl) ?_
          refine T_isub 119 rfl rfl ?_
          refine T_ld 121 (.int (i32 y)) rfl (fun _ => rfl) ?_
          refine T_ld 123 (.int (i32 0)) rfl (fun _ => rfl) ?_
          refine T_isub 124 rfl rfl ?_
          refine T_callx 127 159 [.ref 59, .int (i32 v13), .int (i32 n), .int (i32 (x - 0)), .int (i32 (y - 0))] [] rfl (fun _ => rfl) rfl rfl (c_sp_earliest w (mO m30 [] []) c N D (by omega) Tm30 v13 n (x - 0) (y - 0) (r32 (by omega) (by omega)) (r32 (by omega) (by omega)) (r32 (by omega) (by omega)) (r32 (by omega) (by omega)) (show 0 ≤ v13 ∧ v13 ≤ 47 by omega) (show 1 ≤ n ∧ n ≤ 12 by omega)) (fun rr61 k62 => ?_)
          obtain ⟨x63, g64, h65, rfl⟩ := k62
          refine Or.inl ⟨_, _, _, _, rfl, ?_⟩
          refine T_ns (st' := [.int (i32 x63)]) rfl ?_
          obtain ⟨g64a, g64b⟩ := g64
          replace h65 : 0 ≤ x63 → (m30.2 63) x63 < 8 := h65
          rewrite [(show (m30.2 63) = (m14.2 63) from (fr2 Fm30 63 rfl))] at h65
          refine T_sto 129 [(10, .int (i32 x63)), (9, .int (i32 0)), (8, .int (i32 0)), (7, .null), (0, .ref 59), (1, .ref 12), (2, .int (i32 n)), (3, .int (i32 x)), (4, .int (i32 y)), (5, .int (i32 v12)), (6, .int (i32 v13))] rfl (fun _ => rfl) ?_
          refine T_ld 131 (.int (i32 x63)) rfl (fun _ => rfl) ?_
          refine T_ld 132 (.int (i32 (-1))) rfl (fun _ => rfl) ?_
          refine T_icmp 138 135 rfl rfl rfl (r32 (by omega) (by omega)) ⟨by decide, by decide⟩ (fun (h66 : x63 ≠ (-1)) => ?_) (fun (h66 : ¬ (x63 ≠ (-1))) => ?_)
          · skip
            have hMg := hMW x63 (by omega) (by omega)
            refine T_ld 139 (.ref 59) rfl (fun _ => rfl) ?_
            refine K_gf 142 (.ref 67) rfl rfl kd_59 rfl rfl rfl ?_
            refine T_ld 144 (.int (i32 v13)) rfl (fun _ => rfl) ?_
            refine T_ld 146 (.int (i32 x63)) rfl (fun _ => rfl) ?_
            have G67 : ∀ j, 0 ≤ (upI (m14.2 59) v13 x63) j ∧ (upI (m14.2 59) v13 x63) j ≤ 11 := upI_rg (Tm14.2.1 59) ⟨by omega, by omega⟩
            refine K_iast (a' := [(59, upI (m14.2 59) v13 x63)]) 147 59 (m14.2 59) rfl rfl rfl (by omega) (show v13 < (48 : Int) by omega) (show (m30.2 59) = (m14.2 59) from (fr2 Fm30 59 rfl)) rfl ?_
            refine T_ld 148 (.ref 59) rfl (fun _ => rfl) ?_
            refine K_gf 151 (.ref 71) rfl rfl kd_59 rfl rfl rfl ?_
            refine T_ld 153 (.int (i32 x63)) rfl (fun _ => rfl) ?_
            refine T_dup2 154 rfl (fun _ => rfl) ?_
            refine K_iald 155 63 (m14.2 63) rfl rfl rfl (by omega) (show x63 < (12 : Int) by omega) (show (m30.2 63) = (m14.2 63) from (fr2 Fm30 63 rfl)) ?_
            have e68 : 0 ≤ (m14.2 63) x63 ∧ (m14.2 63) x63 ≤ 48 := (Tm14.2.1 63) x63
            refine T_ld 156 (.int (i32 1)) rfl (fun _ => rfl) ?_
            refine T_iadd 157 rfl rfl ?_
            have G69 : ∀ j, 0 ≤ (upI (m14.2 63) x63 (((m14.2 63) x63) + 1)) j ∧ (upI (m14.2 63) x63 (((m14.2 63) x63) + 1)) j ≤ 48 := upI_rg (Tm14.2.1 63) ⟨by omega, by omega⟩
            refine K_iast (a' := [(59, upI (m14.2 59) v13 x63), (63, upI (m14.2 63) x63 (((m14.2 63) x63) + 1))]) 158 63 (m14.2 63) rfl rfl rfl (by omega) (show x63 < (12 : Int) by omega) (show (m30.2 63) = (m14.2 63) from (fr2 Fm30 63 rfl)) rfl ?_
            refine T_ld 159 (.ref 59) rfl (fun _ => rfl) ?_
            refine K_gf 162 (.ref 72) rfl rfl kd_59 rfl rfl rfl ?_
            refine T_ld 164 (.int (i32 x63)) rfl (fun _ => rfl) ?_
            refine T_dup2 165 rfl (fun _ => rfl) ?_
            refine K_iald 166 64 (m14.2 64) rfl rfl rfl (by omega) (show x63 < (12 : Int) by omega) (show (m30.2 64) = (m14.2 64) from (fr2 Fm30 64 rfl)) ?_
            have e70 : 0 ≤ (m14.2 64) x63 ∧ (m14.2 64) x63 ≤ 60000000 := (Tm14.2.1 64) x63
            refine T_ld 168 (.int (i32 0)) rfl (fun _ => rfl) ?_
            refine T_iadd 169 rfl rfl ?_
            have G71 : ∀ j, 0 ≤ (upI (m14.2 64) x63 (((m14.2 64) x63) + 0)) j ∧ (upI (m14.2 64) x63 (((m14.2 64) x63) + 0)) j ≤ 60000000 := upI_rg (Tm14.2.1 64) ⟨by omega, by omega⟩
            refine K_iast (a' := [(59, upI (m14.2 59) v13 x63), (63, upI (m14.2 63) x63 (((m14.2 63) x63) + 1)), (64, upI (m14.2 64) x63 (((m14.2 64) x63) + 0))]) 170 64 (m14.2 64) rfl rfl rfl (by omega) (show x63 < (12 : Int) by omega) (show (m30.2 64) = (m14.2 64) from (fr2 Fm30 64 rfl)) rfl ?_
            refine T_ld 171 (.ref 59) rfl (fun _ => rfl) ?_
            refine K_gf 174 (.ref 73) rfl rfl kd_59 rfl rfl rfl ?_
            refine T_ld 176 (.int (i32 x63)) rfl (fun _ => rfl) ?_
            refine T_dup2 177 rfl (fun _ => rfl) ?_
            refine K_iald 178 65 (m14.2 65) rfl rfl rfl (by omega) (show x63 < (12 : Int) by omega) (show (m30.2 65) = (m14.2 65) from (fr2 Fm30 65 rfl)) ?_
            have e72 : 0 ≤ (m14.2 65) x63 ∧ (m14.2 65) x63 ≤ 200000 := (Tm14.2.1 65) x63
            refine T_ld 180 (.int (i32 0)) rfl (fun _ => rfl) ?_
            refine T_iadd 181 rfl rfl ?_
            have G73 : ∀ j, 0 ≤ (upI (m14.2 65) x63 (((m14.2 65) x63) + 0)) j ∧ (upI (m14.2 65) x63 (((m14.2 65) x63) + 0)) j ≤ 200000 := upI_rg (Tm14.2.1 65) ⟨by omega, by omega⟩
            refine K_iast (a' := [(59, upI (m14.2 59) v13 x63), (63, upI (m14.2 63) x63 (((m14.2 63) x63) + 1)), (64, upI (m14.2 64) x63 (((m14.2 64) x63) + 0)), (65, upI (m14.2 65) x63 (((m14.2 65) x63) + 0))]) 182 65 (m14.2 65) rfl rfl rfl (by omega) (show x63 < (12 : Int) by omega) (show (m30.2 65) = (m14.2 65) from (fr2 Fm30 65 rfl)) rfl ?_
            refine T_ld 184 (.int (i32 v12)) rfl (fun _ => rfl) ?_
            refine T_ld 186 (.int (i32 x63)) rfl (fun _ => rfl) ?_
            refine T_ld 187 (.int (i32 1)) rfl (fun _ => rfl) ?_
            refine T_iadd 188 rfl rfl ?_
            refine T_callx 191 61 [.int (i32 v12), .int (i32 (x63 + 1))] [] rfl (fun _ => rfl) rfl rfl (c_Math_max w (mO m30 [] [(59, upI (m14.2 59) v13 x63), (63, upI (m14.2 63) x63 (((m14.2 63) x63) + 1)), (64, upI (m14.2 64) x63 (((m14.2 64) x63) + 0)), (65, upI (m14.2 65) x63 (((m14.2 65) x63) + 0))]) c N D (by omega) (KTy_mO Tm30 rfl rfl trivial ⟨G67, G69, G71, G73, trivial⟩) v12 (x63 + 1) (r32 (by omega) (by omega)) (r32 (by omega) (by omega))) (fun rr74 k75 => ?_)
            obtain ⟨x76, g77, h78, h79, rfl⟩ := k75
            refine Or.inl ⟨_, _, _, _, rfl, ?_⟩
            refine T_ns (st' := [.int (i32 x76)]) rfl ?_
            obtain ⟨g77a, g77b⟩ := g77
            replace h78 : x76 = v12 ∨ x76 = (x63 + 1) := h78
            replace h79 : v12 ≤ x76 ∧ (x63 + 1) ≤ x76 := h79
            refine T_sto 193 [(5, .int (i32 x76)), (10, .int (i32 x63)), (9, .int (i32 0)), (8, .int (i32 0)), (7, .null), (0, .ref 59), (1, .ref 12), (2, .int (i32 n)), (3, .int (i32 x)), (4, .int (i32 y)), (6, .int (i32 v13))] rfl (fun _ => rfl) ?_
            refine T_iinc 196 [(6, .int (i32 (v13 + 1))), (5, .int (i32 x76)), (10, .int (i32 x63)), (9, .int (i32 0)), (8, .int (i32 0)), (7, .null), (0, .ref 59), (1, .ref 12), (2, .int (i32 n)), (3, .int (i32 x)), (4, .int (i32 y))] rfl rfl (by decide) rfl rfl ?_
            refine T_goto 30 rfl (fun _ => rfl) ?_
            refine Tm_lv (a := [(0, .ref 59), (1, .ref 12), (2, .int (i32 n)), (3, .int (i32 x)), (4, .int (i32 y)), (5, .int (i32 x76)), (6, .int (i32 (v13 + 1)))]) rfl rfl ⟨rfl, rfl, rfl, rfl, rfl, rfl, rfl, trivial⟩ ?_
            exact ih25 x76 (v13 + 1) (mO m30 [] [(59, upI (m14.2 59) v13 x63), (63, upI (m14.2 63) x63 (((m14.2 63) x63) + 1)), (64, upI (m14.2 64) x63 (((m14.2 64) x63) + 0)), (65, upI (m14.2 65) x63 (((m14.2 65) x63) + 0))]) (r32 (by omega) (by omega)) (r32 (by omega) (by omega)) (KTy_mO Tm30 rfl rfl trivial ⟨G67, G69, G71, G73, trivial⟩) (fr_m (fr_s Fm30 (fr_m (fr_s Fm14 (fr_m fr_0 rfl rfl) rfl rfl) rfl rfl) rfl rfl) rfl rfl) (show 0 ≤ (v13 + 1) by omega) (show 0 ≤ (v13 + 1) ∧ (v13 + 1) ≤ (m.1 225) by omega) (show 1 ≤ x76 ∧ x76 ≤ 12 by omega) (show ∀ g, 0 ≤ g → g < 12 → (upI (m14.2 64) x63 (((m14.2 64) x63) + 0)) g ≤ 1200000 * (v13 + 1) ∧ (upI (m14.2 65) x63 (((m14.2 65) x63) + 0)) g ≤ 256 * (v13 + 1) by first | (intro g a b; have := hFzM g a b; have := hFzW g a b; omega) | (intro g a b; have := hMW g a b; unfold upI; split <;> omega)) (show 60 - (v13 + 1) < (n24 : Int) by omega)
          · skip
            refine T_ld 137 (.int (i32 v13)) rfl (fun _ => rfl) ?_
            refine T_ret rfl (fun _ => rfl) ?_
            exact ⟨(mO m30 [] []), v13, Tm30, (fr_m (fr_s Fm30 (fr_m (fr_s Fm14 (fr_m (fr_s Fm10 (fr_m (fr_s Fm6 (fr_m (fr_s Fm3 (fr_m fr_0 rfl rfl) rfl rfl) rfl rfl) rfl rfl) rfl rfl) rfl rfl) rfl rfl) rfl rfl) rfl rfl) rfl rfl) rfl rfl), ⟨by omega, by omega⟩, (show v13 = -1 → 1 ≤ (m30.1 226) by rewrite [(show (m30.1 226) = (m.1 226) from ((fr1 Fm30 226 rfl).trans ((fr1 Fm14 226 rfl).trans ((fr1 Fm10 226 rfl).trans ((fr1 Fm6 226 rfl).trans (fr1 Fm3 226 rfl))))))]; omega), rfl⟩
  refine Tm_lv (a := [(0, .ref 59), (1, .ref 12), (2, .int (i32 n)), (3, .int (i32 x)), (4, .int (i32 y)), (5, .int (i32 1)), (6, .int (i32 0))]) rfl rfl ⟨rfl, rfl, rfl, rfl, rfl, rfl, rfl, trivial⟩ ?_
  exact L30_15 ((60 - (0 : Int) : Int) + 1).toNat 1 0 (mO m10 [] []) ⟨by decide, by decide⟩ ⟨by decide, by decide⟩ Tm10 (fr_m fr_0 rfl rfl) (show 0 ≤ (0 : Int) by omega) (show 0 ≤ (0 : Int) ∧ (0 : Int) ≤ (m.1 225) by omega) (show 1 ≤ (1 : Int) ∧ (1 : Int) ≤ 12 by omega) (show ∀ g, 0 ≤ g → g < 12 → (m10.2 64) g ≤ 1200000 * (0 : Int) ∧ (m10.2 65) g ≤ 256 * (0 : Int) by rewrite [(show (m10.2 64) = (m6.2 64) from (fr2 Fm10 64 rfl))]; first | (intro g a b; have := hFzM g a b; have := hFzW g a b; omega) | (intro g a b; have := hMW g a b; unfold upI; split <;> omega)) (show 60 - (0 : Int) < ((((60 - (0 : Int) : Int) + 1).toNat : Nat) : Int) by omega)
