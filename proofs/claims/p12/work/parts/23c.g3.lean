def Q_node (m : mR) (c : Nat → Option am_C) (N : Nat) (a : Int) (b : Int) (n : Int) (v : Int) (B : Int) (h : Int) : ag_Re af_T → Prop := fun R => ∃ (M : mR), Ty M ∧ ((M.1 10) = 0 → (m.1 10) = 0) ∧ (M.1 10 = 0 → ((M.1 28) = (m.1 28) + 1) ∧ (EX (M.2 65) (M.2 67) B (M.1 28) (h + 1 - ar a)) ∧ (agr (m.2 65) (M.2 65) (m.1 28))) ∧ R = (.inl (none), (mhp (mO m [(10, (M.1 10)), (11, (M.1 11)), (28, (M.1 28))] [(65, (M.2 65)), (66, (M.2 66)), (67, (M.2 67)), (68, (M.2 68))]) c, N), 0, 0)
set_option maxHeartbeats 8000000 in
theorem c_node (w : wX) (m : mR) (c : Nat → Option am_C) (N D : Nat) (hD : 2 ≤ D) (hT : Ty m) (a : Int) (b : Int) (n : Int) (v : Int) (B : Int) (h : Int) (qa : R32 a) (qb : R32 b) (qn : R32 n) (qv : R64 v) (hC : m.1 10 = 0 → (0 ≤ a ∧ a ≤ 408) ∧ (0 ≤ b ∧ b ≤ 64) ∧ (0 ≤ n ∧ n ≤ 191) ∧ (CNk a n) ∧ (ar a ≤ h) ∧ (EX (m.2 65) (m.2 67) B (m.1 28) h)) : TC w D 248 [.ref 189, .int (i32 a), .int (i32 b), .int (i32 n), .long (i64 v)] (mhp m c, N) (Q_node m c N a b n v B h) := by
  obtain ⟨D, rfl⟩ : ∃ k, D = k + 1 := ⟨D - 1, by omega⟩
  obtain ⟨qaa, qab⟩ := id qa
  obtain ⟨qba, qbb⟩ := id qb
  obtain ⟨qna, qnb⟩ := id qn
  obtain ⟨qva, qvb⟩ := id qv
  have f10 : 0 ≤ m.1 10 ∧ m.1 10 ≤ 8 := hT.1 10
  have f11 : (-1) ≤ m.1 11 ∧ m.1 11 ≤ 4000 := hT.1 11
  have f28 : 0 ≤ m.1 28 ∧ m.1 28 ≤ 800 := hT.1 28
  refine Tc_of rfl ?_
  show TT w D pm_248 (0, [(0, .ref 189), (1, .int (i32 a)), (2, .int (i32 b)), (3, .int (i32 n)), (4, .long (i64 v))], [], (mhp m c, N), 0, 0) (Q_node m c N a b n v B h)
  rw [show (mhp m c, N) = (mhp (mO m [(10, (m.1 10)), (11, (m.1 11)), (28, (m.1 28))] [(65, (m.2 65)), (66, (m.2 66)), (67, (m.2 67)), (68, (m.2 68))]) c, N) from congrArg (fun M => (mhp M c, N)) (mO_pad m [10, 11, 28] [65, 66, 67, 68])]
  by_cases hf0 : m.1 10 = 0
  · skip
    obtain ⟨c1, c2, c3, hCk, hAr, hEX⟩ := hC hf0
    refine T_gf 4 (.int (i32 (m.1 10))) rfl rfl rfl rfl rfl rfl ?_
    refine T_if 26 7 rfl rfl rfl (r32 (by omega) (by omega)) (fun (h5 : (m.1 10) ≠ 0) => by exfalso; omega) (fun (h5 : ¬ ((m.1 10) ≠ 0)) => ?_)
    refine T_gf 11 (.int (i32 (m.1 28))) rfl rfl rfl rfl rfl rfl ?_
    refine T_ld 14 (.int (i32 800)) rfl (fun _ => rfl) ?_
    refine T_icmp 26 17 rfl rfl rfl (r32 (by omega) (by omega)) ⟨by decide, by decide⟩ (fun (h6 : (m.1 28) ≠ 800) => ?_) (fun (h6 : ¬ ((m.1 28) ≠ 800)) => ?_)
    · skip
      refine T_gf 30 (.int (i32 (m.1 10))) rfl rfl rfl rfl rfl rfl ?_
      refine T_if 34 33 rfl rfl rfl (r32 (by omega) (by omega)) (fun (h7 : (m.1 10) ≤ 0) => ?_) (fun (h7 : ¬ ((m.1 10) ≤ 0)) => by exfalso; omega)
      refine T_gf 38 (.ref 234) rfl rfl rfl rfl rfl rfl ?_
      refine T_gf 42 (.int (i32 (m.1 28))) rfl rfl rfl rfl rfl rfl ?_
      refine T_ld 43 (.int (i32 a)) rfl (fun _ => rfl) ?_
      have G8 : ∀ j, 0 ≤ (upI (m.2 65) (m.1 28) a) j ∧ (upI (m.2 65) (m.1 28) a) j ≤ 408 := upI_rg (hT.2.1 65) ⟨by omega, by omega⟩
      refine T_iast (a' := [(65, upI (m.2 65) (m.1 28) a), (66, (m.2 66)), (67, (m.2 67)), (68, (m.2 68))]) 44 65 (m.2 65) rfl rfl rfl (by omega) (show (m.1 28) < (800 : Int) by omega) rfl rfl ?_
      refine T_gf 48 (.ref 235) rfl rfl rfl rfl rfl rfl ?_
      refine T_gf 52 (.int (i32 (m.1 28))) rfl rfl rfl rfl rfl rfl ?_
      refine T_ld 53 (.int (i32 b)) rfl (fun _ => rfl) ?_
      have G9 : ∀ j, 0 ≤ (upI (m.2 66) (m.1 28) b) j ∧ (upI (m.2 66) (m.1 28) b) j ≤ 64 := upI_rg (hT.2.1 66) ⟨by omega, by omega⟩
      refine T_iast (a' := [(65, upI (m.2 65) (m.1 28) a), (66, upI (m.2 66) (m.1 28) b), (67, (m.2 67)), (68, (m.2 68))]) 54 66 (m.2 66) rfl rfl rfl (by omega) (show (m.1 28) < (800 : Int) by omega) rfl rfl ?_
      refine T_gf 58 (.ref 236) rfl rfl rfl rfl rfl rfl ?_
      refine T_gf 62 (.int (i32 (m.1 28))) rfl rfl rfl rfl rfl rfl ?_
      refine T_ld 63 (.int (i32 n)) rfl (fun _ => rfl) ?_
      have G10 : ∀ j, 0 ≤ (upI (m.2 67) (m.1 28) n) j ∧ (upI (m.2 67) (m.1 28) n) j ≤ 191 := upI_rg (hT.2.1 67) ⟨by omega, by omega⟩
      refine T_iast (a' := [(65, upI (m.2 65) (m.1 28) a), (66, upI (m.2 66) (m.1 28) b), (67, upI (m.2 67) (m.1 28) n), (68, (m.2 68))]) 64 67 (m.2 67) rfl rfl rfl (by omega) (show (m.1 28) < (800 : Int) by omega) rfl rfl ?_
      refine T_gf 68 (.ref 237) rfl rfl rfl rfl rfl rfl ?_
      refine T_gf 72 (.int (i32 (m.1 28))) rfl rfl rfl rfl rfl rfl ?_
      refine T_ld 74 (.long (i64 v)) rfl (fun _ => rfl) ?_
      have G11 : ∀ j, (-9223372036854775808) ≤ (upI (m.2 68) (m.1 28) v) j ∧ (upI (m.2 68) (m.1 28) v) j ≤ 9223372036854775807 := upI_rg (hT.2.1 68) ⟨by omega, by omega⟩
      refine T_last (a' := [(65, upI (m.2 65) (m.1 28) a), (66, upI (m.2 66) (m.1 28) b), (67, upI (m.2 67) (m.1 28) n), (68, upI (m.2 68) (m.1 28) v)]) 75 68 (m.2 68) rfl rfl rfl (by omega) (show (m.1 28) < (800 : Int) by omega) rfl rfl ?_
      refine T_ld 76 (.ref 189) rfl (fun _ => rfl) ?_
      refine T_ld 77 (.ref 189) rfl (fun _ => rfl) ?_
      refine T_gf1 80 (.int (i32 (m.1 28))) rfl rfl rfl rfl ?_
      refine T_ld 81 (.int (i32 1)) rfl (fun _ => rfl) ?_
      refine T_iadd 82 rfl rfl ?_
      refine T_pf (l' := [(10, (m.1 10)), (11, (m.1 11)), (28, (m.1 28) + 1)]) 85 ((m.1 28) + 1) rfl rfl rfl rfl rfl rfl ?_
      have g12 : 0 ≤ (m.1 28) + 1 ∧ (m.1 28) + 1 ≤ 800 := ⟨by omega, by omega⟩
      refine T_ret rfl (fun _ => rfl) ?_
      exact ⟨(mO m [(10, (m.1 10)), (11, (m.1 11)), (28, (m.1 28) + 1)] [(65, upI (m.2 65) (m.1 28) a), (66, upI (m.2 66) (m.1 28) b), (67, upI (m.2 67) (m.1 28) n), (68, upI (m.2 68) (m.1 28) v)]), (Ty_mO hT rfl rfl ⟨f10, f11, g12, trivial⟩ ⟨G8, G9, G10, G11, trivial⟩), (show (m.1 10) = 0 → (m.1 10) = 0 by omega), (fun _ => ⟨(show ((m.1 28) + 1) = (m.1 28) + 1 by omega), (show EX (upI (m.2 65) (m.1 28) a) (upI (m.2 67) (m.1 28) n) B ((m.1 28) + 1) (h + 1 - ar a) by first | (exact EX_put hEX hAr hCk) | (exfalso; omega)), (show agr (m.2 65) (upI (m.2 65) (m.1 28) a) (m.1 28) by first | (exact agr_u (Int.le_refl _)) | (exfalso; omega))⟩), rfl⟩
    · skip
      refine T_ld 18 (.ref 189) rfl (fun _ => rfl) ?_
      refine T_ld 19 (.int (i32 4)) rfl (fun _ => rfl) ?_
      have f8 : 0 ≤ m.1 8 ∧ m.1 8 ≤ 4000 := hT.1 8
      refine T_gf 23 (.int (i32 (m.1 8))) rfl rfl rfl rfl rfl rfl ?_
      refine T_call 26 222 [.ref 189, .int (i32 4), .int (i32 (m.1 8))] [] rfl (fun _ => rfl) rfl (c_wrong w (mO m [(10, (m.1 10)), (11, (m.1 11)), (28, (m.1 28))] [(65, (m.2 65)), (66, (m.2 66)), (67, (m.2 67)), (68, (m.2 68))]) c N D (by omega) (Ty_mO hT rfl rfl ⟨f10, f11, f28, trivial⟩ ⟨(hT.2.1 65), (hT.2.1 66), (hT.2.1 67), (hT.2.1 68), trivial⟩) 4 (m.1 8) ⟨by decide, by decide⟩ (r32 (by omega) (by omega)) (show 1 ≤ (4 : Int) ∧ (4 : Int) ≤ 8 by omega) (show 0 ≤ (m.1 8) ∧ (m.1 8) ≤ 4000 by omega)) (fun rr13 k14 => ?_)
      obtain ⟨y15, y17, g16, g18, h19, rfl⟩ := k14
      refine ⟨_, _, rfl, ?_⟩
      refine T_nf2 (st' := []) (l' := [(10, y15), (11, y17), (28, (m.1 28))]) (a' := [(65, (m.2 65)), (66, (m.2 66)), (67, (m.2 67)), (68, (m.2 68))]) [10, 11] [] rfl ⟨rfl, rfl, rfl, rfl, rfl, rfl, trivial⟩ ⟨rfl, rfl, rfl, rfl, rfl, rfl, rfl, rfl, trivial⟩ rfl rfl (by decide) (by decide) ?_
      replace h19 : (0 < (m.1 10) → y15 = (m.1 10) ∧ y17 = (m.1 11)) ∧ ((m.1 10) ≤ 0 → y15 = (4 : Int) ∧ y17 = (m.1 8)) := h19
      have hf20 : 1 ≤ y15 := by omega
      refine T_gf 30 (.int (i32 y15)) rfl rfl rfl rfl rfl rfl ?_
      refine T_if 34 33 rfl rfl rfl (r32 (by omega) (by omega)) (fun (h21 : y15 ≤ 0) => by exfalso; omega) (fun (h21 : ¬ (y15 ≤ 0)) => ?_)
      refine T_ret rfl (fun _ => rfl) ?_
      exact ⟨(mO m [(10, y15), (11, y17), (28, (m.1 28))] [(65, (m.2 65)), (66, (m.2 66)), (67, (m.2 67)), (68, (m.2 68))]), (Ty_mO hT rfl rfl ⟨g16, g18, f28, trivial⟩ ⟨(hT.2.1 65), (hT.2.1 66), (hT.2.1 67), (hT.2.1 68), trivial⟩), (show y15 = 0 → (m.1 10) = 0 by omega), (fun (h : y15 = 0) => absurd h (by omega)), rfl⟩
  · skip
    clear hC
    refine T_gf 4 (.int (i32 (m.1 10))) rfl rfl rfl rfl rfl rfl ?_
    refine T_if 26 7 rfl rfl rfl (r32 (by omega) (by omega)) (fun (h22 : (m.1 10) ≠ 0) => ?_) (fun (h22 : ¬ ((m.1 10) ≠ 0)) => by exfalso; omega)
    refine T_gf 30 (.int (i32 (m.1 10))) rfl rfl rfl rfl rfl rfl ?_
    refine T_if 34 33 rfl rfl rfl (r32 (by omega) (by omega)) (fun (h23 : (m.1 10) ≤ 0) => by exfalso; omega) (fun (h23 : ¬ ((m.1 10) ≤ 0)) => ?_)
    refine T_ret rfl (fun _ => rfl) ?_
    exact ⟨(mO m [(10, (m.1 10)), (11, (m.1 11)), (28, (m.1 28))] [(65, (m.2 65)), (66, (m.2 66)), (67, (m.2 67)), (68, (m.2 68))]), (Ty_mO hT rfl rfl ⟨f10, f11, f28, trivial⟩ ⟨(hT.2.1 65), (hT.2.1 66), (hT.2.1 67), (hT.2.1 68), trivial⟩), (show (m.1 10) = 0 → (m.1 10) = 0 by omega), (fun (h : (m.1 10) = 0) => absurd h (by omega)), rfl⟩
def Q_fits (m : mR) (c : Nat → Option am_C) (N : Nat) (v : Int) (b : Int) : ag_Re af_T → Prop := fun R => ∃ (r : Int), (0 ≤ r ∧ r ≤ 1) ∧ R = (.inl (some (.int (i32 r))), (mhp (mO m [] []) c, N), 0, 0)
set_option maxHeartbeats 8000000 in
theorem c_fits (w : wX) (m : mR) (c : Nat → Option am_C) (N D : Nat) (hD : 1 ≤ D) (hT : Ty m) (v : Int) (b : Int) (qv : R64 v) (qb : R32 b) : TC w D 262 [.long (i64 v), .int (i32 b)] (mhp m c, N) (Q_fits m c N v b) := by
  obtain ⟨D, rfl⟩ : ∃ k, D = k + 1 := ⟨D - 1, by omega⟩
  obtain ⟨qva, qvb⟩ := id qv
  obtain ⟨qba, qbb⟩ := id qb
  refine Tc_of rfl ?_
  show TT w D pm_262 (0, [(0, .long (i64 v)), (2, .int (i32 b))], [], (mhp m c, N), 0, 0) (Q_fits m c N v b)
  rw [show (mhp m c, N) = (mhp (mO m [] []) c, N) from rfl]
  refine T_ld 1 (.int (i32 b)) rfl (fun _ => rfl) ?_
  refine T_ld 3 (.int (i32 64)) rfl (fun _ => rfl) ?_
  refine T_icmp 14 6 rfl rfl rfl (r32 (by omega) (by omega)) ⟨by decide, by decide⟩ (fun (h1 : b = 64) => ?_) (fun (h1 : ¬ (b = 64)) => ?_)
  · skip
    refine T_ld 15 (.int (i32 1)) rfl (fun _ => rfl) ?_
    refine T_goto 19 rfl (fun _ => rfl) ?_
    refine T_ret rfl (fun _ => rfl) ?_
    exact ⟨1, ⟨by omega, by omega⟩, rfl⟩
  · skip
    refine T_ld 7 (.long (i64 v)) rfl (fun _ => rfl) ?_
    refine T_ld 8 (.int (i32 b)) rfl (fun _ => rfl) ?_
    refine T_lhv 9 _ rfl (fun _ => rfl) (fun z2 h3 => ?_)
    obtain ⟨h3a, h3b⟩ := h3
    refine T_ld 10 (.long (i64 0)) rfl (fun _ => rfl) ?_
    refine T_lcmp 11 rfl rfl (r64 (by omega) (by omega)) ⟨by decide, by decide⟩ (fun z4 h5 => ?_)
    obtain ⟨h5a, h5b, h5c, h5d, h5e⟩ := h5
    refine T_if 18 14 rfl rfl rfl (r32 (by omega) (by omega)) (fun (h6 : z4 ≠ 0) => ?_) (fun (h6 : ¬ (z4 ≠ 0)) => ?_)
    · skip
      have hl7 : z2 ≠ 0 := by omega
      refine T_ld 19 (.int (i32 0)) rfl (fun _ => rfl) ?_
      refine T_ret rfl (fun _ => rfl) ?_
      exact ⟨0, ⟨by omega, by omega⟩, rfl⟩
    · skip
      have hl8 : z2 = 0 := by omega
      refine T_ld 15 (.int (i32 1)) rfl (fun _ => rfl) ?_
      refine T_goto 19 rfl (fun _ => rfl) ?_
      refine T_ret rfl (fun _ => rfl) ?_
      exact ⟨1, ⟨by omega, by omega⟩, rfl⟩
def Q_want (m : mR) (c : Nat → Option am_C) (N : Nat) (g : Int) (p : Int) : ag_Re af_T → Prop := fun R => ∃ (M : mR), Ty M ∧ ((M.1 10) = 0 → (m.1 10) = 0) ∧ (M.1 10 = 0 → (g ≠ 0)) ∧ R = (.inl (none), (mhp (mO m [(10, (M.1 10)), (11, (M.1 11))] []) c, N), 0, 0)
set_option maxHeartbeats 8000000 in
theorem c_want (w : wX) (m : mR) (c : Nat → Option am_C) (N D : Nat) (hD : 2 ≤ D) (hT : Ty m) (g : Int) (p : Int) (qg : R32 g) (qp : R32 p) (p0 : 0 ≤ p ∧ p ≤ 4000) (hC : m.1 10 = 0 → True) : TC w D 256 [.ref 189, .int (i32 g), .int (i32 p)] (mhp m c, N) (Q_want m c N g p) := by
  obtain ⟨D, rfl⟩ : ∃ k, D = k + 1 := ⟨D - 1, by omega⟩
  obtain ⟨qga, qgb⟩ := id qg
  obtain ⟨qpa, qpb⟩ := id qp
  have f10 : 0 ≤ m.1 10 ∧ m.1 10 ≤ 8 := hT.1 10
  have f11 : (-1) ≤ m.1 11 ∧ m.1 11 ≤ 4000 := hT.1 11
  refine Tc_of rfl ?_
  show TT w D pm_256 (0, [(0, .ref 189), (1, .int (i32 g)), (2, .int (i32 p))], [], (mhp m c, N), 0, 0) (Q_want m c N g p)
  rw [show (mhp m c, N) = (mhp (mO m [(10, (m.1 10)), (11, (m.1 11))] []) c, N) from congrArg (fun M => (mhp M c, N)) (mO_pad m [10, 11] [])]
  by_cases hf0 : m.1 10 = 0
  · skip
    refine T_ld 1 (.int (i32 g)) rfl (fun _ => rfl) ?_
    refine T_if 11 4 rfl rfl rfl (r32 (by omega) (by omega)) (fun (h2 : g ≠ 0) => ?_) (fun (h2 : ¬ (g ≠ 0)) => ?_)
    · skip
      refine T_ret rfl (fun _ => rfl) ?_
      exact ⟨(mO m [(10, (m.1 10)), (11, (m.1 11))] []), (Ty_mO hT rfl rfl ⟨f10, f11, trivial⟩ trivial), (show (m.1 10) = 0 → (m.1 10) = 0 by omega), (fun _ => (show g ≠ 0 by omega)), rfl⟩
    · skip
      refine T_ld 5 (.ref 189) rfl (fun _ => rfl) ?_
      refine T_ld 7 (.int (i32 7)) rfl (fun _ => rfl) ?_
      refine T_ld 8 (.int (i32 p)) rfl (fun _ => rfl) ?_
      refine T_call 11 222 [.ref 189, .int (i32 7), .int (i32 p)] [] rfl (fun _ => rfl) rfl (c_wrong w (mO m [(10, (m.1 10)), (11, (m.1 11))] []) c N D (by omega) (Ty_mO hT rfl rfl ⟨f10, f11, trivial⟩ trivial) 7 p ⟨by decide, by decide⟩ (r32 (by omega) (by omega)) (show 1 ≤ (7 : Int) ∧ (7 : Int) ≤ 8 by omega) (show 0 ≤ p ∧ p ≤ 4000 by omega)) (fun rr3 k4 => ?_)
      obtain ⟨y5, y7, g6, g8, h9, rfl⟩ := k4
      refine ⟨_, _, rfl, ?_⟩
      refine T_nf2 (st' := []) (l' := [(10, y5), (11, y7)]) (a' := []) [10, 11] [] rfl ⟨rfl, rfl, rfl, rfl, trivial⟩ trivial rfl rfl (by decide) (by decide) ?_
      replace h9 : (0 < (m.1 10) → y5 = (m.1 10) ∧ y7 = (m.1 11)) ∧ ((m.1 10) ≤ 0 → y5 = (7 : Int) ∧ y7 = p) := h9
      have hf10 : 1 ≤ y5 := by omega
      refine T_ret rfl (fun _ => rfl) ?_
      exact ⟨(mO m [(10, y5), (11, y7)] []), (Ty_mO hT rfl rfl ⟨g6, g8, trivial⟩ trivial), (show y5 = 0 → (m.1 10) = 0 by omega), (fun (h : y5 = 0) => absurd h (by omega)), rfl⟩
  · skip
    clear hC
    refine T_ld 1 (.int (i32 g)) rfl (fun _ => rfl) ?_
    refine T_if 11 4 rfl rfl rfl (r32 (by omega) (by omega)) (fun (h11 : g ≠ 0) => ?_) (fun (h11 : ¬ (g ≠ 0)) => ?_)
    · skip
      refine T_ret rfl (fun _ => rfl) ?_
      exact ⟨(mO m [(10, (m.1 10)), (11, (m.1 11))] []), (Ty_mO hT rfl rfl ⟨f10, f11, trivial⟩ trivial), (show (m.1 10) = 0 → (m.1 10) = 0 by omega), (fun (h : (m.1 10) = 0) => absurd h (by omega)), rfl⟩
    · skip
      refine T_ld 5 (.ref 189) rfl (fun _ => rfl) ?_
      refine T_ld 7 (.int (i32 7)) rfl (fun _ => rfl) ?_
      refine T_ld 8 (.int (i32 p)) rfl (fun _ => rfl) ?_
      refine T_call 11 222 [.ref 189, .int (i32 7), .int (i32 p)] [] rfl (fun _ => rfl) rfl (c_wrong w (mO m [(10, (m.1 10)), (11, (m.1 11))] []) c N D (by omega) (Ty_mO hT rfl rfl ⟨f10, f11, trivial⟩ trivial) 7 p ⟨by decide, by decide⟩ (r32 (by omega) (by omega)) (show 1 ≤ (7 : Int) ∧ (7 : Int) ≤ 8 by omega) (show 0 ≤ p ∧ p ≤ 4000 by omega)) (fun rr12 k13 => ?_)
      obtain ⟨y14, y16, g15, g17, h18, rfl⟩ := k13
      refine ⟨_, _, rfl, ?_⟩
      refine T_nf2 (st' := []) (l' := [(10, y14), (11, y16)]) (a' := []) [10, 11] [] rfl ⟨rfl, rfl, rfl, rfl, trivial⟩ trivial rfl rfl (by decide) (by decide) ?_
      replace h18 : (0 < (m.1 10) → y14 = (m.1 10) ∧ y16 = (m.1 11)) ∧ ((m.1 10) ≤ 0 → y14 = (7 : Int) ∧ y16 = p) := h18
      have hf19 : 1 ≤ y14 := by omega
      refine T_ret rfl (fun _ => rfl) ?_
      exact ⟨(mO m [(10, y14), (11, y16)] []), (Ty_mO hT rfl rfl ⟨g15, g17, trivial⟩ trivial), (show y14 = 0 → (m.1 10) = 0 by omega), (fun (h : y14 = 0) => absurd h (by omega)), rfl⟩
def Q_wantBit (m : mR) (c : Nat → Option am_C) (N : Nat) (b : Int) (g : Int) (v : Int) (p : Int) : ag_Re af_T → Prop := fun R => ∃ (M : mR), Ty M ∧ ((M.1 10) = 0 → (m.1 10) = 0) ∧ (M.1 10 = 0 → True) ∧ R = (.inl (none), (mhp (mO m [(10, (M.1 10)), (11, (M.1 11))] []) c, N), 0, 0)
set_option maxHeartbeats 8000000 in
theorem c_wantBit (w : wX) (m : mR) (c : Nat → Option am_C) (N D : Nat) (hD : 3 ≤ D) (hT : Ty m) (b : Int) (g : Int) (v : Int) (p : Int) (qb : R32 b) (qg : R32 g) (qv : R64 v) (qp : R32 p) (p0 : 0 ≤ p ∧ p ≤ 4000) (hC : m.1 10 = 0 → True) : TC w D 258 [.ref 189, .int (i32 b), .int (i32 g), .long (i64 v), .int (i32 p)] (mhp m c, N) (Q_wantBit m c N b g v p) := by
  obtain ⟨D, rfl⟩ : ∃ k, D = k + 1 := ⟨D - 1, by omega⟩
  obtain ⟨qba, qbb⟩ := id qb
  obtain ⟨qga, qgb⟩ := id qg
  obtain ⟨qva, qvb⟩ := id qv
  obtain ⟨qpa, qpb⟩ := id qp
  have f10 : 0 ≤ m.1 10 ∧ m.1 10 ≤ 8 := hT.1 10
  have f11 : (-1) ≤ m.1 11 ∧ m.1 11 ≤ 4000 := hT.1 11
  refine Tc_of rfl ?_
  show TT w D pm_258 (0, [(0, .ref 189), (1, .int (i32 b)), (2, .int (i32 g)), (3, .long (i64 v)), (5, .int (i32 p))], [], (mhp m c, N), 0, 0) (Q_wantBit m c N b g v p)
  rw [show (mhp m c, N) = (mhp (mO m [(10, (m.1 10)), (11, (m.1 11))] []) c, N) from congrArg (fun M => (mhp M c, N)) (mO_pad m [10, 11] [])]
  by_cases hf0 : m.1 10 = 0
  · skip
    have J36_3 : ∀ (m2 : mR), (Ty m2) → (1 ≤ (m2.1 10)) → ((m2.1 10) ≤ 8) → TT w D pm_258 (36, [(0, .ref 189), (1, .int (i32 b)), (2, .int (i32 g)), (3, .long (i64 v)), (5, .int (i32 p))], [], (mhp (mO m [(10, (m2.1 10)), (11, (m2.1 11))] []) c, N), 0, 0) (Q_wantBit m c N b g v p) := by
      intro m2 q4 ic5 ic6
      have q4_10 : 0 ≤ m2.1 10 ∧ m2.1 10 ≤ 8 := q4.1 10
      have q4_11 : (-1) ≤ m2.1 11 ∧ m2.1 11 ≤ 4000 := q4.1 11
      refine T_ret rfl (fun _ => rfl) ?_
      exact ⟨(mO m [(10, (m2.1 10)), (11, (m2.1 11))] []), (Ty_mO hT rfl rfl ⟨(q4.1 10), (q4.1 11), trivial⟩ trivial), (show (m2.1 10) = 0 → (m.1 10) = 0 by omega), (fun (h : (m2.1 10) = 0) => absurd h (by omega)), rfl⟩
    refine T_ld 1 (.ref 189) rfl (fun _ => rfl) ?_
    refine T_ld 2 (.int (i32 g)) rfl (fun _ => rfl) ?_
    refine T_if 21 5 rfl rfl rfl (r32 (by omega) (by omega)) (fun (h8 : g = 0) => ?_) (fun (h8 : ¬ (g = 0)) => ?_)
    · skip
      refine T_ld 22 (.int (i32 b)) rfl (fun _ => rfl) ?_
      refine T_ld 23 (.int (i32 1)) rfl (fun _ => rfl) ?_
      refine T_icmp 30 26 rfl rfl rfl (r32 (by omega) (by omega)) ⟨by decide, by decide⟩ (fun (h9 : b ≠ 1) => ?_) (fun (h9 : ¬ (b ≠ 1)) => ?_)
      · skip
        refine T_ld 31 (.int (i32 0)) rfl (fun _ => rfl) ?_
        refine T_ld 33 (.int (i32 p)) rfl (fun _ => rfl) ?_
        refine T_call 36 256 [.ref 189, .int (i32 0), .int (i32 p)] [] rfl (fun _ => rfl) rfl (c_want w (mO m [(10, (m.1 10)), (11, (m.1 11))] []) c N D (by omega) (Ty_mO hT rfl rfl ⟨f10, f11, trivial⟩ trivial) 0 p ⟨by decide, by decide⟩ (r32 (by omega) (by omega)) (show 0 ≤ p ∧ p ≤ 4000 by omega) (fun _ => trivial)) (fun rr10 k11 => ?_)
        obtain ⟨m12, hT13, h14, c15, rfl⟩ := k11
        refine ⟨_, _, rfl, ?_⟩
        refine T_nf2 (st' := []) (l' := [(10, (m12.1 10)), (11, (m12.1 11))]) (a' := []) [10, 11] [] rfl ⟨rfl, rfl, rfl, rfl, trivial⟩ trivial rfl rfl (by decide) (by decide) ?_
        have g16 : 0 ≤ m12.1 10 ∧ m12.1 10 ≤ 8 := hT13.1 10
        have g17 : (-1) ≤ m12.1 11 ∧ m12.1 11 ≤ 4000 := hT13.1 11
        by_cases hf18 : (m12.1 10) = 0
        · skip
          replace h14 : (m.1 10) = 0 := h14 hf18
          have c19 := c15 hf18
          replace c19 : (0 : Int) ≠ 0 := c19
          clear c15
          refine T_ret rfl (fun _ => rfl) ?_
          exact ⟨(mO m [(10, (m12.1 10)), (11, (m12.1 11))] []), (Ty_mO hT rfl rfl ⟨(hT13.1 10), (hT13.1 11), trivial⟩ trivial), (show (m12.1 10) = 0 → (m.1 10) = 0 by omega), (fun _ => trivial), rfl⟩
        · skip
          clear c15
          clear h14
          have hf20 : 1 ≤ (m12.1 10) := by omega
          exact J36_3 (mO m [(10, (m12.1 10)), (11, (m12.1 11))] []) (Ty_mO hT rfl rfl ⟨(hT13.1 10), (hT13.1 11), trivial⟩ trivial) (show 1 ≤ (m12.1 10) by omega) (show (m12.1 10) ≤ 8 by omega)
      · skip
        refine T_ld 27 (.int (i32 1)) rfl (fun _ => rfl) ?_
        refine T_goto 31 rfl (fun _ => rfl) ?_
        refine T_ld 33 (.int (i32 p)) rfl (fun _ => rfl) ?_
        refine T_call 36 256 [.ref 189, .int (i32 1), .int (i32 p)] [] rfl (fun _ => rfl) rfl (c_want w (mO m [(10, (m.1 10)), (11, (m.1 11))] []) c N D (by omega) (Ty_mO hT rfl rfl ⟨f10, f11, trivial⟩ trivial) 1 p ⟨by decide, by decide⟩ (r32 (by omega) (by omega)) (show 0 ≤ p ∧ p ≤ 4000 by omega) (fun _ => trivial)) (fun rr21 k22 => ?_)
        obtain ⟨m23, hT24, h25, c26, rfl⟩ := k22
        refine ⟨_, _, rfl, ?_⟩
        refine T_nf2 (st' := []) (l' := [(10, (m23.1 10)), (11, (m23.1 11))]) (a' := []) [10, 11] [] rfl ⟨rfl, rfl, rfl, rfl, trivial⟩ trivial rfl rfl (by decide) (by decide) ?_
        have g27 : 0 ≤ m23.1 10 ∧ m23.1 10 ≤ 8 := hT24.1 10
        have g28 : (-1) ≤ m23.1 11 ∧ m23.1 11 ≤ 4000 := hT24.1 11
        by_cases hf29 : (m23.1 10) = 0
        · skip
          replace h25 : (m.1 10) = 0 := h25 hf29
          have c30 := c26 hf29
          replace c30 : (1 : Int) ≠ 0 := c30
          clear c26
          refine T_ret rfl (fun _ => rfl) ?_
          exact ⟨(mO m [(10, (m23.1 10)), (11, (m23.1 11))] []), (Ty_mO hT rfl rfl ⟨(hT24.1 10), (hT24.1 11), trivial⟩ trivial), (show (m23.1 10) = 0 → (m.1 10) = 0 by omega), (fun _ => trivial), rfl⟩
        · skip
          clear c26
          clear h25
          have hf31 : 1 ≤ (m23.1 10) := by omega
          exact J36_3 (mO m [(10, (m23.1 10)), (11, (m23.1 11))] []) (Ty_mO hT rfl rfl ⟨(hT24.1 10), (hT24.1 11), trivial⟩ trivial) (show 1 ≤ (m23.1 10) by omega) (show (m23.1 10) ≤ 8 by omega)
    · skip
      refine T_ld 6 (.long (i64 v)) rfl (fun _ => rfl) ?_
      refine T_ld 7 (.int (i32 1)) rfl (fun _ => rfl) ?_
      refine T_lhv 8 _ rfl (fun _ => rfl) (fun z32 h33 => ?_)
      obtain ⟨h33a, h33b⟩ := h33
      refine T_ld 9 (.long (i64 0)) rfl (fun _ => rfl) ?_
      refine T_lcmp 10 rfl rfl (r64 (by omega) (by omega)) ⟨by decide, by decide⟩ (fun z34 h35 => ?_)
      obtain ⟨h35a, h35b, h35c, h35d, h35e⟩ := h35
      refine T_if 17 13 rfl rfl rfl (r32 (by omega) (by omega)) (fun (h36 : z34 ≠ 0) => ?_) (fun (h36 : ¬ (z34 ≠ 0)) => ?_)
      · skip
        have hl37 : z32 ≠ 0 := by omega
        refine T_ld 18 (.int (i32 0)) rfl (fun _ => rfl) ?_
        refine T_goto 31 rfl (fun _ => rfl) ?_
        refine T_ld 33 (.int (i32 p)) rfl (fun _ => rfl) ?_
        refine T_call 36 256 [.ref 189, .int (i32 0), .int (i32 p)] [] rfl (fun _ => rfl) rfl (c_want w (mO m [(10, (m.1 10)), (11, (m.1 11))] []) c N D (by omega) (Ty_mO hT rfl rfl ⟨f10, f11, trivial⟩ trivial) 0 p ⟨by decide, by decide⟩ (r32 (by omega) (by omega)) (show 0 ≤ p ∧ p ≤ 4000 by omega) (fun _ => trivial)) (fun rr38 k39 => ?_)
        obtain ⟨m40, hT41, h42, c43, rfl⟩ := k39
        refine ⟨_, _, rfl, ?_⟩
        refine T_nf2 (st' := []) (l' := [(10, (m40.1 10)), (11, (m40.1 11))]) (a' := []) [10, 11] [] rfl ⟨rfl, rfl, rfl, rfl, trivial⟩ trivial rfl rfl (by decide) (by decide) ?_
        have g44 : 0 ≤ m40.1 10 ∧ m40.1 10 ≤ 8 := hT41.1 10
        have g45 : (-1) ≤ m40.1 11 ∧ m40.1 11 ≤ 4000 := hT41.1 11
        by_cases hf46 : (m40.1 10) = 0
        · skip
          replace h42 : (m.1 10) = 0 := h42 hf46
          have c47 := c43 hf46
          replace c47 : (0 : Int) ≠ 0 := c47
          clear c43
          clear h33a h33b h35a h35b h35c h35d h35e h36 hl37
          refine T_ret rfl (fun _ => rfl) ?_
          exact ⟨(mO m [(10, (m40.1 10)), (11, (m40.1 11))] []), (Ty_mO hT rfl rfl ⟨(hT41.1 10), (hT41.1 11), trivial⟩ trivial), (show (m40.1 10) = 0 → (m.1 10) = 0 by omega), (fun _ => trivial), rfl⟩
        · skip
          clear c43
          clear h42
          have hf48 : 1 ≤ (m40.1 10) := by omega
          clear h33a h33b h35a h35b h35c h35d h35e h36 hl37
          exact J36_3 (mO m [(10, (m40.1 10)), (11, (m40.1 11))] []) (Ty_mO hT rfl rfl ⟨(hT41.1 10), (hT41.1 11), trivial⟩ trivial) (show 1 ≤ (m40.1 10) by omega) (show (m40.1 10) ≤ 8 by omega)
      · skip
        have hl49 : z32 = 0 := by omega
        refine T_ld 14 (.int (i32 1)) rfl (fun _ => rfl) ?_
        refine T_goto 31 rfl (fun _ => rfl) ?_
        refine T_ld 33 (.int (i32 p)) rfl (fun _ => rfl) ?_
        refine T_call 36 256 [.ref 189, .int (i32 1), .int (i32 p)] [] rfl (fun _ => rfl) rfl (c_want w (mO m [(10, (m.1 10)), (11, (m.1 11))] []) c N D (by omega) (Ty_mO hT rfl rfl ⟨f10, f11, trivial⟩ trivial) 1 p ⟨by decide, by decide⟩ (r32 (by omega) (by omega)) (show 0 ≤ p ∧ p ≤ 4000 by omega) (fun _ => trivial)) (fun rr50 k51 => ?_)
        obtain ⟨m52, hT53, h54, c55, rfl⟩ := k51
        refine ⟨_, _, rfl, ?_⟩
        refine T_nf2 (st' := []) (l' := [(10, (m52.1 10)), (11, (m52.1 11))]) (a' := []) [10, 11] [] rfl ⟨rfl, rfl, rfl, rfl, trivial⟩ trivial rfl rfl (by decide) (by decide) ?_
        have g56 : 0 ≤ m52.1 10 ∧ m52.1 10 ≤ 8 := hT53.1 10
        have g57 : (-1) ≤ m52.1 11 ∧ m52.1 11 ≤ 4000 := hT53.1 11
        by_cases hf58 : (m52.1 10) = 0
        · skip
          replace h54 : (m.1 10) = 0 := h54 hf58
          have c59 := c55 hf58
          replace c59 : (1 : Int) ≠ 0 := c59
          clear c55
          clear h33a h33b h35a h35b h35c h35d h35e h36 hl49
          refine T_ret rfl (fun _ => rfl) ?_
          exact ⟨(mO m [(10, (m52.1 10)), (11, (m52.1 11))] []), (Ty_mO hT rfl rfl ⟨(hT53.1 10), (hT53.1 11), trivial⟩ trivial), (show (m52.1 10) = 0 → (m.1 10) = 0 by omega), (fun _ => trivial), rfl⟩
        · skip
          clear c55
          clear h54
          have hf60 : 1 ≤ (m52.1 10) := by omega
          clear h33a h33b h35a h35b h35c h35d h35e h36 hl49
          exact J36_3 (mO m [(10, (m52.1 10)), (11, (m52.1 11))] []) (Ty_mO hT rfl rfl ⟨(hT53.1 10), (hT53.1 11), trivial⟩ trivial) (show 1 ≤ (m52.1 10) by omega) (show (m52.1 10) ≤ 8 by omega)
  · skip
    clear hC
    refine T_ld 1 (.ref 189) rfl (fun _ => rfl) ?_
    refine T_ld 2 (.int (i32 g)) rfl (fun _ => rfl) ?_
    refine T_if 21 5 rfl rfl rfl (r32 (by omega) (by omega)) (fun (h61 : g = 0) => ?_) (fun (h61 : ¬ (g = 0)) => ?_)
    · skip
      refine T_ld 22 (.int (i32 b)) rfl (fun _ => rfl) ?_
      refine T_ld 23 (.int (i32 1)) rfl (fun _ => rfl) ?_
      refine T_icmp 30 26 rfl rfl rfl (r32 (by omega) (by omega)) ⟨by decide, by decide⟩ (fun (h62 : b ≠ 1) => ?_) (fun (h62 : ¬ (b ≠ 1)) => ?_)
      · skip
        refine T_ld 31 (.int (i32 0)) rfl (fun _ => rfl) ?_
        refine T_ld 33 (.int (i32 p)) rfl (fun _ => rfl) ?_
        refine T_call 36 256 [.ref 189, .int (i32 0), .int (i32 p)] [] rfl (fun _ => rfl) rfl (c_want w (mO m [(10, (m.1 10)), (11, (m.1 11))] []) c N D (by omega) (Ty_mO hT rfl rfl ⟨f10, f11, trivial⟩ trivial) 0 p ⟨by decide, by decide⟩ (r32 (by omega) (by omega)) (show 0 ≤ p ∧ p ≤ 4000 by omega) (fun (h : (m.1 10) = 0) => absurd h (by omega))) (fun rr63 k64 => ?_)
        obtain ⟨m65, hT66, h67, c68, rfl⟩ := k64
        refine ⟨_, _, rfl, ?_⟩
        refine T_nf2 (st' := []) (l' := [(10, (m65.1 10)), (11, (m65.1 11))]) (a' := []) [10, 11] [] rfl ⟨rfl, rfl, rfl, rfl, trivial⟩ trivial rfl rfl (by decide) (by decide) ?_
        have g69 : 0 ≤ m65.1 10 ∧ m65.1 10 ≤ 8 := hT66.1 10
        have g70 : (-1) ≤ m65.1 11 ∧ m65.1 11 ≤ 4000 := hT66.1 11
        replace h67 : (m65.1 10) = 0 → (m.1 10) = 0 := h67
        have hf71 : 1 ≤ (m65.1 10) := by omega
        clear c68
        clear h67
        refine T_ret rfl (fun _ => rfl) ?_
        exact ⟨(mO m [(10, (m65.1 10)), (11, (m65.1 11))] []), (Ty_mO hT rfl rfl ⟨(hT66.1 10), (hT66.1 11), trivial⟩ trivial), (show (m65.1 10) = 0 → (m.1 10) = 0 by omega), (fun (h : (m65.1 10) = 0) => absurd h (by omega)), rfl⟩
      · skip
        refine T_ld 27 (.int (i32 1)) rfl (fun _ => rfl) ?_
        refine T_goto 31 rfl (fun _ => rfl) ?_
        refine T_ld 33 (.int (i32 p)) rfl (fun _ => rfl) ?_
        refine T_call 36 256 [.ref 189, .int (i32 1), .int (i32 p)] [] rfl (fun _ => rfl) rfl (c_want w (mO m [(10, (m.1 10)), (11, (m.1 11))] []) c N D (by omega) (Ty_mO hT rfl rfl ⟨f10, f11, trivial⟩ trivial) 1 p ⟨by decide, by decide⟩ (r32 (by omega) (by omega)) (show 0 ≤ p ∧ p ≤ 4000 by omega) (fun (h : (m.1 10) = 0) => absurd h (by omega))) (fun rr72 k73 => ?_)
        obtain ⟨m74, hT75, h76, c77, rfl⟩ := k73
        refine ⟨_, _, rfl, ?_⟩
        refine T_nf2 (st' := []) (l' := [(10, (m74.1 10)), (11, (m74.1 11))]) (a' := []) [10, 11] [] rfl ⟨rfl, rfl, rfl, rfl, trivial⟩ trivial rfl rfl (by decide) (by decide) ?_
        have g78 : 0 ≤ m74.1 10 ∧ m74.1 10 ≤ 8 := hT75.1 10
        have g79 : (-1) ≤ m74.1 11 ∧ m74.1 11 ≤ 4000 := hT75.1 11
        replace h76 : (m74.1 10) = 0 → (m.1 10) = 0 := h76
        have hf80 : 1 ≤ (m74.1 10) := by omega
        clear c77
        clear h76
        refine T_ret rfl (fun _ => rfl) ?_
        exact ⟨(mO m [(10, (m74.1 10)), (11, (m74.1 11))] []), (Ty_mO hT rfl rfl ⟨(hT75.1 10), (hT75.1 11), trivial⟩ trivial), (show (m74.1 10) = 0 → (m.1 10) = 0 by omega), (fun (h : (m74.1 10) = 0) => absurd h (by omega)), rfl⟩
    · skip
      refine T_ld 6 (.long (i64 v)) rfl (fun _ => rfl) ?_
      refine T_ld 7 (.int (i32 1)) rfl (fun _ => rfl) ?_
      refine T_lhv 8 _ rfl (fun _ => rfl) (fun z81 h82 => ?_)
      obtain ⟨h82a, h82b⟩ := h82
      refine T_ld 9 (.long (i64 0)) rfl (fun _ => rfl) ?_
      refine T_lcmp 10 rfl rfl (r64 (by omega) (by omega)) ⟨by decide, by decide⟩ (fun z83 h84 => ?_)
      obtain ⟨h84a, h84b, h84c, h84d, h84e⟩ := h84
      refine T_if 17 13 rfl rfl rfl (r32 (by omega) (by omega)) (fun (h85 : z83 ≠ 0) => ?_) (fun (h85 : ¬ (z83 ≠ 0)) => ?_)
      · skip
        have hl86 : z81 ≠ 0 := by omega
        refine T_ld 18 (.int (i32 0)) rfl (fun _ => rfl) ?_
        refine T_goto 31 rfl (fun _ => rfl) ?_
        refine T_ld 33 (.int (i32 p)) rfl (fun _ => rfl) ?_
        refine T_call 36 256 [.ref 189, .int (i32 0), .int (i32 p)] [] rfl (fun _ => rfl) rfl (c_want w (mO m [(10, (m.1 10)), (11, (m.1 11))] []) c N D (by omega) (Ty_mO hT rfl rfl ⟨f10, f11, trivial⟩ trivial) 0 p ⟨by decide, by decide⟩ (r32 (by omega) (by omega)) (show 0 ≤ p ∧ p ≤ 4000 by omega) (fun (h : (m.1 10) = 0) => absurd h (by omega))) (fun rr87 k88 => ?_)
        obtain ⟨m89, hT90, h91, c92, rfl⟩ := k88
        refine ⟨_, _, rfl, ?_⟩
        refine T_nf2 (st' := []) (l' := [(10, (m89.1 10)), (11, (m89.1 11))]) (a' := []) [10, 11] [] rfl ⟨rfl, rfl, rfl, rfl, trivial⟩ trivial rfl rfl (by decide) (by decide) ?_
        have g93 : 0 ≤ m89.1 10 ∧ m89.1 10 ≤ 8 := hT90.1 10
        have g94 : (-1) ≤ m89.1 11 ∧ m89.1 11 ≤ 4000 := hT90.1 11
        replace h91 : (m89.1 10) = 0 → (m.1 10) = 0 := h91
        have hf95 : 1 ≤ (m89.1 10) := by omega
        clear c92
        clear h91
        clear h82a h82b h84a h84b h84c h84d h84e h85 hl86
        refine T_ret rfl (fun _ => rfl) ?_
        exact ⟨(mO m [(10, (m89.1 10)), (11, (m89.1 11))] []), (Ty_mO hT rfl rfl ⟨(hT90.1 10), (hT90.1 11), trivial⟩ trivial), (show (m89.1 10) = 0 → (m.1 10) = 0 by omega), (fun (h : (m89.1 10) = 0) => absurd h (by omega)), rfl⟩
      · skip
        have hl96 : z81 = 0 := by omega
        refine T_ld 14 (.int (i32 1)) rfl (fun _ => rfl) ?_
        refine T_goto 31 rfl (fun _ => rfl) ?_
        refine T_ld 33 (.int (i32 p)) rfl (fun _ => rfl) ?_
        refine T_call 36 256 [.ref 189, .int (i32 1), .int (i32 p)] [] rfl (fun _ => rfl) rfl (c_want w (mO m [(10, (m.1 10)), (11, (m.1 11))] []) c N D (by omega) (Ty_mO hT rfl rfl ⟨f10, f11, trivial⟩ trivial) 1 p ⟨by decide, by decide⟩ (r32 (by omega) (by omega)) (show 0 ≤ p ∧ p ≤ 4000 by omega) (fun (h : (m.1 10) = 0) => absurd h (by omega))) (fun rr97 k98 => ?_)
        obtain ⟨m99, hT100, h101, c102, rfl⟩ := k98
        refine ⟨_, _, rfl, ?_⟩
        refine T_nf2 (st' := []) (l' := [(10, (m99.1 10)), (11, (m99.1 11))]) (a' := []) [10, 11] [] rfl ⟨rfl, rfl, rfl, rfl, trivial⟩ trivial rfl rfl (by decide) (by decide) ?_
        have g103 : 0 ≤ m99.1 10 ∧ m99.1 10 ≤ 8 := hT100.1 10
        have g104 : (-1) ≤ m99.1 11 ∧ m99.1 11 ≤ 4000 := hT100.1 11
        replace h101 : (m99.1 10) = 0 → (m.1 10) = 0 := h101
        have hf105 : 1 ≤ (m99.1 10) := by omega
        clear c102
        clear h101
        clear h82a h82b h84a h84b h84c h84d h84e h85 hl96
        refine T_ret rfl (fun _ => rfl) ?_
        exact ⟨(mO m [(10, (m99.1 10)), (11, (m99.1 11))] []), (Ty_mO hT rfl rfl ⟨(hT100.1 10), (hT100.1 11), trivial⟩ trivial), (show (m99.1 10) = 0 → (m.1 10) = 0 by omega), (fun (h : (m99.1 10) = 0) => absurd h (by omega)), rfl⟩
def Q_common (m : mR) (c : Nat → Option am_C) (N : Nat) (a : Int) (g : Int) (v : Int) (p : Int) (e : Int) (k : Int) (x : Int) (q : Int) : ag_Re af_T → Prop := fun R => ∃ (M : mR) (r : Int), Ty M ∧ ((-2147483648) ≤ r ∧ r ≤ 2147483647) ∧ ((M.1 10) = 0 → (m.1 10) = 0) ∧ (r = 64 ∨ r = a ∨ r = e) ∧ (M.1 10 = 0 → True) ∧ R = (.inl (some (.int (i32 r))), (mhp (mO m [(10, (M.1 10)), (11, (M.1 11))] []) c, N), 0, 0)
set_option maxHeartbeats 8000000 in
theorem c_common (w : wX) (m : mR) (c : Nat → Option am_C) (N D : Nat) (hD : 3 ≤ D) (hT : Ty m) (a : Int) (g : Int) (v : Int) (p : Int) (e : Int) (k : Int) (x : Int) (q : Int) (qa : R32 a) (qg : R32 g) (qv : R64 v) (qp : R32 p) (qe : R32 e) (qk : R32 k) (qx : R64 x) (qq : R32 q) (p0 : 0 ≤ p ∧ p ≤ 4000) (p1 : 0 ≤ q ∧ q ≤ 4000) (p2 : 0 ≤ a ∧ a ≤ 1024) (p3 : 0 ≤ e ∧ e ≤ 1024) (hC : m.1 10 = 0 → True) : TC w D 261 [.ref 189, .int (i32 a), .int (i32 g), .long (i64 v), .int (i32 p), .int (i32 e), .int (i32 k), .long (i64 x), .int (i32 q)] (mhp m c, N) (Q_common m c N a g v p e k x q) := by
  obtain ⟨D, rfl⟩ : ∃ k, D = k + 1 := ⟨D - 1, by omega⟩
  obtain ⟨qaa, qab⟩ := id qa
  obtain ⟨qga, qgb⟩ := id qg
  obtain ⟨qva, qvb⟩ := id qv
  obtain ⟨qpa, qpb⟩ := id qp
  obtain ⟨qea, qeb⟩ := id qe
  obtain ⟨qka, qkb⟩ := id qk
  obtain ⟨qxa, qxb⟩ := id qx
  obtain ⟨qqa, qqb⟩ := id qq
  have f10 : 0 ≤ m.1 10 ∧ m.1 10 ≤ 8 := hT.1 10
  have f11 : (-1) ≤ m.1 11 ∧ m.1 11 ≤ 4000 := hT.1 11
  refine Tc_of rfl ?_
  show TT w D pm_261 (0, [(0, .ref 189), (1, .int (i32 a)), (2, .int (i32 g)), (3, .long (i64 v)), (5, .int (i32 p)), (6, .int (i32 e)), (7, .int (i32 k)), (8, .long (i64 x)), (10, .int (i32 q))], [], (mhp m c, N), 0, 0) (Q_common m c N a g v p e k x q)
  rw [show (mhp m c, N) = (mhp (mO m [(10, (m.1 10)), (11, (m.1 11))] []) c, N) from congrArg (fun M => (mhp M c, N)) (mO_pad m [10, 11] [])]
  by_cases hf0 : m.1 10 = 0
  · skip
    have J68_5 : ∀ (m4 : mR), (Ty m4) → (1 ≤ (m4.1 10)) → ((m4.1 10) ≤ 8) → TT w D pm_261 (68, [(0, .ref 189), (1, .int (i32 a)), (2, .int (i32 g)), (3, .long (i64 v)), (5, .int (i32 p)), (6, .int (i32 e)), (7, .int (i32 k)), (8, .long (i64 x)), (10, .int (i32 q))], [], (mhp (mO m [(10, (m4.1 10)), (11, (m4.1 11))] []) c, N), 0, 0) (Q_common m c N a g v p e k x q) := by
      intro m4 q6 ic7 ic8
      have q6_10 : 0 ≤ m4.1 10 ∧ m4.1 10 ≤ 8 := q6.1 10
      have q6_11 : (-1) ≤ m4.1 11 ∧ m4.1 11 ≤ 4000 := q6.1 11
      refine T_ld 69 (.int (i32 a)) rfl (fun _ => rfl) ?_
      refine T_ret rfl (fun _ => rfl) ?_
      exact ⟨(mO m [(10, (m4.1 10)), (11, (m4.1 11))] []), a, (Ty_mO hT rfl rfl ⟨(q6.1 10), (q6.1 11), trivial⟩ trivial), ⟨by omega, by omega⟩, (show (m4.1 10) = 0 → (m.1 10) = 0 by omega), (show a = 64 ∨ a = a ∨ a = e by omega), (fun (h : (m4.1 10) = 0) => absurd h (by omega)), rfl⟩
    refine T_ld 1 (.int (i32 g)) rfl (fun _ => rfl) ?_
    refine T_if 12 4 rfl rfl rfl (r32 (by omega) (by omega)) (fun (h10 : g = 0) => ?_) (fun (h10 : ¬ (g = 0)) => ?_)
    · skip
      refine T_ld 13 (.int (i32 g)) rfl (fun _ => rfl) ?_
      refine T_if 31 16 rfl rfl rfl (r32 (by omega) (by omega)) (fun (h11 : g = 0) => ?_) (fun (h11 : ¬ (g = 0)) => by exfalso; omega)
      refine T_ld 33 (.int (i32 k)) rfl (fun _ => rfl) ?_
      refine T_if 51 36 rfl rfl rfl (r32 (by omega) (by omega)) (fun (h12 : k = 0) => ?_) (fun (h12 : ¬ (k = 0)) => ?_)
      · skip
        refine T_ld 52 (.ref 189) rfl (fun _ => rfl) ?_
        refine T_ld 53 (.int (i32 a)) rfl (fun _ => rfl) ?_
        refine T_ld 55 (.int (i32 e)) rfl (fun _ => rfl) ?_
        refine T_icmp 62 58 rfl rfl rfl (r32 (by omega) (by omega)) (r32 (by omega) (by omega)) (fun (h13 : a ≠ e) => ?_) (fun (h13 : ¬ (a ≠ e)) => ?_)
        · skip
          refine T_ld 63 (.int (i32 0)) rfl (fun _ => rfl) ?_
          refine T_ld 65 (.int (i32 q)) rfl (fun _ => rfl) ?_
          refine T_call 68 256 [.ref 189, .int (i32 0), .int (i32 q)] [] rfl (fun _ => rfl) rfl (c_want w (mO m [(10, (m.1 10)), (11, (m.1 11))] []) c N D (by omega) (Ty_mO hT rfl rfl ⟨f10, f11, trivial⟩ trivial) 0 q ⟨by decide, by decide⟩ (r32 (by omega) (by omega)) (show 0 ≤ q ∧ q ≤ 4000 by omega) (fun _ => trivial)) (fun rr14 k15 => ?_)
          obtain ⟨m16, hT17, h18, c19, rfl⟩ := k15
          refine ⟨_, _, rfl, ?_⟩
          refine T_nf2 (st' := []) (l' := [(10, (m16.1 10)), (11, (m16.1 11))]) (a' := []) [10, 11] [] rfl ⟨rfl, rfl, rfl, rfl, trivial⟩ trivial rfl rfl (by decide) (by decide) ?_
          have g20 : 0 ≤ m16.1 10 ∧ m16.1 10 ≤ 8 := hT17.1 10
          have g21 : (-1) ≤ m16.1 11 ∧ m16.1 11 ≤ 4000 := hT17.1 11
          by_cases hf22 : (m16.1 10) = 0
          · skip
            replace h18 : (m.1 10) = 0 := h18 hf22
            have c23 := c19 hf22
            replace c23 : (0 : Int) ≠ 0 := c23
            clear c19
            refine T_ld 69 (.int (i32 a)) rfl (fun _ => rfl) ?_
            refine T_ret rfl (fun _ => rfl) ?_
            exact ⟨(mO m [(10, (m16.1 10)), (11, (m16.1 11))] []), a, (Ty_mO hT rfl rfl ⟨(hT17.1 10), (hT17.1 11), trivial⟩ trivial), ⟨by omega, by omega⟩, (show (m16.1 10) = 0 → (m.1 10) = 0 by omega), (show a = 64 ∨ a = a ∨ a = e by omega), (fun _ => trivial), rfl⟩
          · skip
            clear c19
            clear h18
            have hf24 : 1 ≤ (m16.1 10) := by omega
            exact J68_5 (mO m [(10, (m16.1 10)), (11, (m16.1 11))] []) (Ty_mO hT rfl rfl ⟨(hT17.1 10), (hT17.1 11), trivial⟩ trivial) (show 1 ≤ (m16.1 10) by omega) (show (m16.1 10) ≤ 8 by omega)
        · skip
          refine T_ld 59 (.int (i32 1)) rfl (fun _ => rfl) ?_
          refine T_goto 63 rfl (fun _ => rfl) ?_
          refine T_ld 65 (.int (i32 q)) rfl (fun _ => rfl) ?_
          refine T_call 68 256 [.ref 189, .int (i32 1), .int (i32 q)] [] rfl (fun _ => rfl) rfl (c_want w (mO m [(10, (m.1 10)), (11, (m.1 11))] []) c N D (by omega) (Ty_mO hT rfl rfl ⟨f10, f11, trivial⟩ trivial) 1 q ⟨by decide, by decide⟩ (r32 (by omega) (by omega)) (show 0 ≤ q ∧ q ≤ 4000 by omega) (fun _ => trivial)) (fun rr25 k26 => ?_)
          obtain ⟨m27, hT28, h29, c30, rfl⟩ := k26
          refine ⟨_, _, rfl, ?_⟩
          refine T_nf2 (st' := []) (l' := [(10, (m27.1 10)), (11, (m27.1 11))]) (a' := []) [10, 11] [] rfl ⟨rfl, rfl, rfl, rfl, trivial⟩ trivial rfl rfl (by decide) (by decide) ?_
          have g31 : 0 ≤ m27.1 10 ∧ m27.1 10 ≤ 8 := hT28.1 10
          have g32 : (-1) ≤ m27.1 11 ∧ m27.1 11 ≤ 4000 := hT28.1 11
          by_cases hf33 : (m27.1 10) = 0
          · skip
            replace h29 : (m.1 10) = 0 := h29 hf33
            have c34 := c30 hf33
            replace c34 : (1 : Int) ≠ 0 := c34
            clear c30
            refine T_ld 69 (.int (i32 a)) rfl (fun _ => rfl) ?_
            refine T_ret rfl (fun _ => rfl) ?_
            exact ⟨(mO m [(10, (m27.1 10)), (11, (m27.1 11))] []), a, (Ty_mO hT rfl rfl ⟨(hT28.1 10), (hT28.1 11), trivial⟩ trivial), ⟨by omega, by omega⟩, (show (m27.1 10) = 0 → (m.1 10) = 0 by omega), (show a = 64 ∨ a = a ∨ a = e by omega), (fun _ => trivial), rfl⟩
          · skip
            clear c30
            clear h29
            have hf35 : 1 ≤ (m27.1 10) := by omega
            exact J68_5 (mO m [(10, (m27.1 10)), (11, (m27.1 11))] []) (Ty_mO hT rfl rfl ⟨(hT28.1 10), (hT28.1 11), trivial⟩ trivial) (show 1 ≤ (m27.1 10) by omega) (show (m27.1 10) ≤ 8 by omega)
      · skip
        refine T_ld 37 (.ref 189) rfl (fun _ => rfl) ?_
        refine T_ld 39 (.long (i64 x)) rfl (fun _ => rfl) ?_
        refine T_ld 40 (.int (i32 a)) rfl (fun _ => rfl) ?_
        refine T_call 43 262 [.long (i64 x), .int (i32 a)] [.ref 189] rfl (fun _ => rfl) rfl (c_fits w (mO m [(10, (m.1 10)), (11, (m.1 11))] []) c N D (by omega) (Ty_mO hT rfl rfl ⟨f10, f11, trivial⟩ trivial) x a (r64 (by omega) (by omega)) (r32 (by omega) (by omega))) (fun rr36 k37 => ?_)
        obtain ⟨x38, g39, rfl⟩ := k37
        refine ⟨_, _, rfl, ?_⟩
        refine T_nf2 (st' := [.int (i32 x38), .ref 189]) (l' := [(10, (m.1 10)), (11, (m.1 11))]) (a' := []) [] [] rfl ⟨rfl, rfl, rfl, rfl, trivial⟩ trivial rfl rfl (by decide) (by decide) ?_
        obtain ⟨g39a, g39b⟩ := g39
        refine T_ld 45 (.int (i32 q)) rfl (fun _ => rfl) ?_
        refine T_call 48 256 [.ref 189, .int (i32 x38), .int (i32 q)] [] rfl (fun _ => rfl) rfl (c_want w (mO m [(10, (m.1 10)), (11, (m.1 11))] []) c N D (by omega) (Ty_mO hT rfl rfl ⟨f10, f11, trivial⟩ trivial) x38 q (r32 (by omega) (by omega)) (r32 (by omega) (by omega)) (show 0 ≤ q ∧ q ≤ 4000 by omega) (fun _ => trivial)) (fun rr40 k41 => ?_)
        obtain ⟨m42, hT43, h44, c45, rfl⟩ := k41
        refine ⟨_, _, rfl, ?_⟩
        refine T_nf2 (st' := []) (l' := [(10, (m42.1 10)), (11, (m42.1 11))]) (a' := []) [10, 11] [] rfl ⟨rfl, rfl, rfl, rfl, trivial⟩ trivial rfl rfl (by decide) (by decide) ?_
        have g46 : 0 ≤ m42.1 10 ∧ m42.1 10 ≤ 8 := hT43.1 10
        have g47 : (-1) ≤ m42.1 11 ∧ m42.1 11 ≤ 4000 := hT43.1 11
        by_cases hf48 : (m42.1 10) = 0
        · skip
          replace h44 : (m.1 10) = 0 := h44 hf48
          have c49 := c45 hf48
          replace c49 : x38 ≠ 0 := c49
          clear c45
          clear g39a g39b c49
          refine T_goto 68 rfl (fun _ => rfl) ?_
          refine T_ld 69 (.int (i32 a)) rfl (fun _ => rfl) ?_
          refine T_ret rfl (fun _ => rfl) ?_
          exact ⟨(mO m [(10, (m42.1 10)), (11, (m42.1 11))] []), a, (Ty_mO hT rfl rfl ⟨(hT43.1 10), (hT43.1 11), trivial⟩ trivial), ⟨by omega, by omega⟩, (show (m42.1 10) = 0 → (m.1 10) = 0 by omega), (show a = 64 ∨ a = a ∨ a = e by omega), (fun _ => trivial), rfl⟩
        · skip
          clear c45
          clear h44
          have hf50 : 1 ≤ (m42.1 10) := by omega
          clear g39a g39b
          refine T_goto 68 rfl (fun _ => rfl) ?_
          refine T_ld 69 (.int (i32 a)) rfl (fun _ => rfl) ?_
          refine T_ret rfl (fun _ => rfl) ?_
          exact ⟨(mO m [(10, (m42.1 10)), (11, (m42.1 11))] []), a, (Ty_mO hT rfl rfl ⟨(hT43.1 10), (hT43.1 11), trivial⟩ trivial), ⟨by omega, by omega⟩, (show (m42.1 10) = 0 → (m.1 10) = 0 by omega), (show a = 64 ∨ a = a ∨ a = e by omega), (fun (h : (m42.1 10) = 0) => absurd h (by omega)), rfl⟩
    · skip
      refine T_ld 6 (.int (i32 k)) rfl (fun _ => rfl) ?_
      refine T_if 12 9 rfl rfl rfl (r32 (by omega) (by omega)) (fun (h51 : k = 0) => ?_) (fun (h51 : ¬ (k = 0)) => ?_)
      · skip
        refine T_ld 13 (.int (i32 g)) rfl (fun _ => rfl) ?_
        refine T_if 31 16 rfl rfl rfl (r32 (by omega) (by omega)) (fun (h52 : g = 0) => ?_) (fun (h52 : ¬ (g = 0)) => ?_)
        · skip
          refine T_ld 33 (.int (i32 k)) rfl (fun _ => rfl) ?_
          refine T_if 51 36 rfl rfl rfl (r32 (by omega) (by omega)) (fun (h53 : k = 0) => ?_) (fun (h53 : ¬ (k = 0)) => by exfalso; omega)
          refine T_ld 52 (.ref 189) rfl (fun _ => rfl) ?_
          refine T_ld 53 (.int (i32 a)) rfl (fun _ => rfl) ?_
          refine T_ld 55 (.int (i32 e)) rfl (fun _ => rfl) ?_
          refine T_icmp 62 58 rfl rfl rfl (r32 (by omega) (by omega)) (r32 (by omega) (by omega)) (fun (h54 : a ≠ e) => ?_) (fun (h54 : ¬ (a ≠ e)) => ?_)
          · skip
            refine T_ld 63 (.int (i32 0)) rfl (fun _ => rfl) ?_
            refine T_ld 65 (.int (i32 q)) rfl (fun _ => rfl) ?_
            refine T_call 68 256 [.ref 189, .int (i32 0), .int (i32 q)] [] rfl (fun _ => rfl) rfl (c_want w (mO m [(10, (m.1 10)), (11, (m.1 11))] []) c N D (by omega) (Ty_mO hT rfl rfl ⟨f10, f11, trivial⟩ trivial) 0 q ⟨by decide, by decide⟩ (r32 (by omega) (by omega)) (show 0 ≤ q ∧ q ≤ 4000 by omega) (fun _ => trivial)) (fun rr55 k56 => ?_)
            obtain ⟨m57, hT58, h59, c60, rfl⟩ := k56
            refine ⟨_, _, rfl, ?_⟩
            refine T_nf2 (st' := []) (l' := [(10, (m57.1 10)), (11, (m57.1 11))]) (a' := []) [10, 11] [] rfl ⟨rfl, rfl, rfl, rfl, trivial⟩ trivial rfl rfl (by decide) (by decide) ?_
            have g61 : 0 ≤ m57.1 10 ∧ m57.1 10 ≤ 8 := hT58.1 10
            have g62 : (-1) ≤ m57.1 11 ∧ m57.1 11 ≤ 4000 := hT58.1 11
            by_cases hf63 : (m57.1 10) = 0
            · skip
              replace h59 : (m.1 10) = 0 := h59 hf63
              have c64 := c60 hf63
              replace c64 : (0 : Int) ≠ 0 := c64
              clear c60
              refine T_ld 69 (.int (i32 a)) rfl (fun _ => rfl) ?_
              refine T_ret rfl (fun _ => rfl) ?_
              exact ⟨(mO m [(10, (m57.1 10)), (11, (m57.1 11))] []), a, (Ty_mO hT rfl rfl ⟨(hT58.1 10), (hT58.1 11), trivial⟩ trivial), ⟨by omega, by omega⟩, (show (m57.1 10) = 0 → (m.1 10) = 0 by omega), (show a = 64 ∨ a = a ∨ a = e by omega), (fun _ => trivial), rfl⟩
            · skip
              clear c60
              clear h59
              have hf65 : 1 ≤ (m57.1 10) := by omega
              exact J68_5 (mO m [(10, (m57.1 10)), (11, (m57.1 11))] []) (Ty_mO hT rfl rfl ⟨(hT58.1 10), (hT58.1 11), trivial⟩ trivial) (show 1 ≤ (m57.1 10) by omega) (show (m57.1 10) ≤ 8 by omega)
          · skip
            refine T_ld 59 (.int (i32 1)) rfl (fun _ => rfl) ?_
            refine T_goto 63 rfl (fun _ => rfl) ?_
            refine T_ld 65 (.int (i32 q)) rfl (fun _ => rfl) ?_
            refine T_call 68 256 [.ref 189, .int (i32 1), .int (i32 q)] [] rfl (fun _ => rfl) rfl (c_want w (mO m [(10, (m.1 10)), (11, (m.1 11))] []) c N D (by omega) (Ty_mO hT rfl rfl ⟨f10, f11, trivial⟩ trivial) 1 q ⟨by decide, by decide⟩ (r32 (by omega) (by omega)) (show 0 ≤ q ∧ q ≤ 4000 by omega) (fun _ => trivial)) (fun rr66 k67 => ?_)
            obtain ⟨m68, hT69, h70, c71, rfl⟩ := k67
            refine ⟨_, _, rfl, ?_⟩
            refine T_nf2 (st' := []) (l' := [(10, (m68.1 10)), (11, (m68.1 11))]) (a' := []) [10, 11] [] rfl ⟨rfl, rfl, rfl, rfl, trivial⟩ trivial rfl rfl (by decide) (by decide) ?_
            have g72 : 0 ≤ m68.1 10 ∧ m68.1 10 ≤ 8 := hT69.1 10
            have g73 : (-1) ≤ m68.1 11 ∧ m68.1 11 ≤ 4000 := hT69.1 11
            by_cases hf74 : (m68.1 10) = 0
            · skip
              replace h70 : (m.1 10) = 0 := h70 hf74
              have c75 := c71 hf74
              replace c75 : (1 : Int) ≠ 0 := c75
              clear c71
              refine T_ld 69 (.int (i32 a)) rfl (fun _ => rfl) ?_
              refine T_ret rfl (fun _ => rfl) ?_
              exact ⟨(mO m [(10, (m68.1 10)), (11, (m68.1 11))] []), a, (Ty_mO hT rfl rfl ⟨(hT69.1 10), (hT69.1 11), trivial⟩ trivial), ⟨by omega, by omega⟩, (show (m68.1 10) = 0 → (m.1 10) = 0 by omega), (show a = 64 ∨ a = a ∨ a = e by omega), (fun _ => trivial), rfl⟩
            · skip
              clear c71
              clear h70
              have hf76 : 1 ≤ (m68.1 10) := by omega
              exact J68_5 (mO m [(10, (m68.1 10)), (11, (m68.1 11))] []) (Ty_mO hT rfl rfl ⟨(hT69.1 10), (hT69.1 11), trivial⟩ trivial) (show 1 ≤ (m68.1 10) by omega) (show (m68.1 10) ≤ 8 by omega)
        · skip
          refine T_ld 17 (.ref 189) rfl (fun _ => rfl) ?_
          refine T_ld 18 (.long (i64 v)) rfl (fun _ => rfl) ?_
          refine T_ld 20 (.int (i32 e)) rfl (fun _ => rfl) ?_
          refine T_call 23 262 [.long (i64 v), .int (i32 e)] [.ref 189] rfl (fun _ => rfl) rfl (c_fits w (mO m [(10, (m.1 10)), (11, (m.1 11))] []) c N D (by omega) (Ty_mO hT rfl rfl ⟨f10, f11, trivial⟩ trivial) v e (r64 (by omega) (by omega)) (r32 (by omega) (by omega))) (fun rr77 k78 => ?_)
          obtain ⟨x79, g80, rfl⟩ := k78
          refine ⟨_, _, rfl, ?_⟩
          refine T_nf2 (st' := [.int (i32 x79), .ref 189]) (l' := [(10, (m.1 10)), (11, (m.1 11))]) (a' := []) [] [] rfl ⟨rfl, rfl, rfl, rfl, trivial⟩ trivial rfl rfl (by decide) (by decide) ?_
          obtain ⟨g80a, g80b⟩ := g80
          refine T_ld 25 (.int (i32 p)) rfl (fun _ => rfl) ?_
          refine T_call 28 256 [.ref 189, .int (i32 x79), .int (i32 p)] [] rfl (fun _ => rfl) rfl (c_want w (mO m [(10, (m.1 10)), (11, (m.1 11))] []) c N D (by omega) (Ty_mO hT rfl rfl ⟨f10, f11, trivial⟩ trivial) x79 p (r32 (by omega) (by omega)) (r32 (by omega) (by omega)) (show 0 ≤ p ∧ p ≤ 4000 by omega) (fun _ => trivial)) (fun rr81 k82 => ?_)
          obtain ⟨m83, hT84, h85, c86, rfl⟩ := k82
          refine ⟨_, _, rfl, ?_⟩
          refine T_nf2 (st' := []) (l' := [(10, (m83.1 10)), (11, (m83.1 11))]) (a' := []) [10, 11] [] rfl ⟨rfl, rfl, rfl, rfl, trivial⟩ trivial rfl rfl (by decide) (by decide) ?_
          have g87 : 0 ≤ m83.1 10 ∧ m83.1 10 ≤ 8 := hT84.1 10
          have g88 : (-1) ≤ m83.1 11 ∧ m83.1 11 ≤ 4000 := hT84.1 11
          by_cases hf89 : (m83.1 10) = 0
          · skip
            replace h85 : (m.1 10) = 0 := h85 hf89
            have c90 := c86 hf89
            replace c90 : x79 ≠ 0 := c90
            clear c86
            clear g80a g80b c90
            refine T_ld 30 (.int (i32 e)) rfl (fun _ => rfl) ?_
            refine T_ret rfl (fun _ => rfl) ?_
            exact ⟨(mO m [(10, (m83.1 10)), (11, (m83.1 11))] []), e, (Ty_mO hT rfl rfl ⟨(hT84.1 10), (hT84.1 11), trivial⟩ trivial), ⟨by omega, by omega⟩, (show (m83.1 10) = 0 → (m.1 10) = 0 by omega), (show e = 64 ∨ e = a ∨ e = e by omega), (fun _ => trivial), rfl⟩
          · skip
            clear c86
            clear h85
            have hf91 : 1 ≤ (m83.1 10) := by omega
            clear g80a g80b
            refine T_ld 30 (.int (i32 e)) rfl (fun _ => rfl) ?_
            refine T_ret rfl (fun _ => rfl) ?_
            exact ⟨(mO m [(10, (m83.1 10)), (11, (m83.1 11))] []), e, (Ty_mO hT rfl rfl ⟨(hT84.1 10), (hT84.1 11), trivial⟩ trivial), ⟨by omega, by omega⟩, (show (m83.1 10) = 0 → (m.1 10) = 0 by omega), (show e = 64 ∨ e = a ∨ e = e by omega), (fun (h : (m83.1 10) = 0) => absurd h (by omega)), rfl⟩
      · skip
        refine T_ld 11 (.int (i32 64)) rfl (fun _ => rfl) ?_
        refine T_ret rfl (fun _ => rfl) ?_
        exact ⟨(mO m [(10, (m.1 10)), (11, (m.1 11))] []), 64, (Ty_mO hT rfl rfl ⟨f10, f11, trivial⟩ trivial), ⟨by omega, by omega⟩, (show (m.1 10) = 0 → (m.1 10) = 0 by omega), (show (64 : Int) = 64 ∨ (64 : Int) = a ∨ (64 : Int) = e by omega), (fun _ => trivial), rfl⟩
  · skip
    clear hC
    refine T_ld 1 (.int (i32 g)) rfl (fun _ => rfl) ?_
    refine T_if 12 4 rfl rfl rfl (r32 (by omega) (by omega)) (fun (h92 : g = 0) => ?_) (fun (h92 : ¬ (g = 0)) => ?_)
    · skip
      refine T_ld 13 (.int (i32 g)) rfl (fun _ => rfl) ?_
      refine T_if 31 16 rfl rfl rfl (r32 (by omega) (by omega)) (fun (h93 : g = 0) => ?_) (fun (h93 : ¬ (g = 0)) => by exfalso; omega)
      refine T_ld 33 (.int (i32 k)) rfl (fun _ => rfl) ?_
      refine T_if 51 36 rfl rfl rfl (r32 (by omega) (by omega)) (fun (h94 : k = 0) => ?_) (fun (h94 : ¬ (k = 0)) => ?_)
      · skip
        refine T_ld 52 (.ref 189) rfl (fun _ => rfl) ?_
        refine T_ld 53 (.int (i32 a)) rfl (fun _ => rfl) ?_
        refine T_ld 55 (.int (i32 e)) rfl (fun _ => rfl) ?_
        refine T_icmp 62 58 rfl rfl rfl (r32 (by omega) (by omega)) (r32 (by omega) (by omega)) (fun (h95 : a ≠ e) => ?_) (fun (h95 : ¬ (a ≠ e)) => ?_)
        · skip
          refine T_ld 63 (.int (i32 0)) rfl (fun _ => rfl) ?_
          refine T_ld 65 (.int (i32 q)) rfl (fun _ => rfl) ?_
          refine T_call 68 256 [.ref 189, .int (i32 0), .int (i32 q)] [] rfl (fun _ => rfl) rfl (c_want w (mO m [(10, (m.1 10)), (11, (m.1 11))] []) c N D (by omega) (Ty_mO hT rfl rfl ⟨f10, f11, trivial⟩ trivial) 0 q ⟨by decide, by decide⟩ (r32 (by omega) (by omega)) (show 0 ≤ q ∧ q ≤ 4000 by omega) (fun (h : (m.1 10) = 0) => absurd h (by omega))) (fun rr96 k97 => ?_)
          obtain ⟨m98, hT99, h100, c101, rfl⟩ := k97
          refine ⟨_, _, rfl, ?_⟩
          refine T_nf2 (st' := []) (l' := [(10, (m98.1 10)), (11, (m98.1 11))]) (a' := []) [10, 11] [] rfl ⟨rfl, rfl, rfl, rfl, trivial⟩ trivial rfl rfl (by decide) (by decide) ?_
          have g102 : 0 ≤ m98.1 10 ∧ m98.1 10 ≤ 8 := hT99.1 10
          have g103 : (-1) ≤ m98.1 11 ∧ m98.1 11 ≤ 4000 := hT99.1 11
          replace h100 : (m98.1 10) = 0 → (m.1 10) = 0 := h100
          have hf104 : 1 ≤ (m98.1 10) := by omega
          clear c101
          clear h100
          refine T_ld 69 (.int (i32 a)) rfl (fun _ => rfl) ?_
          refine T_ret rfl (fun _ => rfl) ?_
          exact ⟨(mO m [(10, (m98.1 10)), (11, (m98.1 11))] []), a, (Ty_mO hT rfl rfl ⟨(hT99.1 10), (hT99.1 11), trivial⟩ trivial), ⟨by omega, by omega⟩, (show (m98.1 10) = 0 → (m.1 10) = 0 by omega), (show a = 64 ∨ a = a ∨ a = e by omega), (fun (h : (m98.1 10) = 0) => absurd h (by omega)), rfl⟩
        · skip
          refine T_ld 59 (.int (i32 1)) rfl (fun _ => rfl) ?_
          refine T_goto 63 rfl (fun _ => rfl) ?_
          refine T_ld 65 (.int (i32 q)) rfl (fun _ => rfl) ?_
          refine T_call 68 256 [.ref 189, .int (i32 1), .int (i32 q)] [] rfl (fun _ => rfl) rfl (c_want w (mO m [(10, (m.1 10)), (11, (m.1 11))] []) c N D (by omega) (Ty_mO hT rfl rfl ⟨f10, f11, trivial⟩ trivial) 1 q ⟨by decide, by decide⟩ (r32 (by omega) (by omega)) (show 0 ≤ q ∧ q ≤ 4000 by omega) (fun (h : (m.1 10) = 0) => absurd h (by omega))) (fun rr105 k106 => ?_)
          obtain ⟨m107, hT108, h109, c110, rfl⟩ := k106
          refine ⟨_, _, rfl, ?_⟩
          refine T_nf2 (st' := []) (l' := [(10, (m107.1 10)), (11, (m107.1 11))]) (a' := []) [10, 11] [] rfl ⟨rfl, rfl, rfl, rfl, trivial⟩ trivial rfl rfl (by decide) (by decide) ?_
          have g111 : 0 ≤ m107.1 10 ∧ m107.1 10 ≤ 8 := hT108.1 10
          have g112 : (-1) ≤ m107.1 11 ∧ m107.1 11 ≤ 4000 := hT108.1 11
          replace h109 : (m107.1 10) = 0 → (m.1 10) = 0 := h109
          have hf113 : 1 ≤ (m107.1 10) := by omega
          clear c110
          clear h109
          refine T_ld 69 (.int (i32 a)) rfl (fun _ => rfl) ?_
          refine T_ret rfl (fun _ => rfl) ?_
          exact ⟨(mO m [(10, (m107.1 10)), (11, (m107.1 11))] []), a, (Ty_mO hT rfl rfl ⟨(hT108.1 10), (hT108.1 11), trivial⟩ trivial), ⟨by omega, by omega⟩, (show (m107.1 10) = 0 → (m.1 10) = 0 by omega), (show a = 64 ∨ a = a ∨ a = e by omega), (fun (h : (m107.1 10) = 0) => absurd h (by omega)), rfl⟩
      · skip
        refine T_ld 37 (.ref 189) rfl (fun _ => rfl) ?_
        refine T_ld 39 (.long (i64 x)) rfl (fun _ => rfl) ?_
        refine T_ld 40 (.int (i32 a)) rfl (fun _ => rfl) ?_
        refine T_call 43 262 [.long (i64 x), .int (i32 a)] [.ref 189] rfl (fun _ => rfl) rfl (c_fits w (mO m [(10, (m.1 10)), (11, (m.1 11))] []) c N D (by omega) (Ty_mO hT rfl rfl ⟨f10, f11, trivial⟩ trivial) x a (r64 (by omega) (by omega)) (r32 (by omega) (by omega))) (fun rr114 k115 => ?_)
        obtain ⟨x116, g117, rfl⟩ := k115
        refine ⟨_, _, rfl, ?_⟩
        refine T_nf2 (st' := [.int (i32 x116), .ref 189]) (l' := [(10, (m.1 10)), (11, (m.1 11))]) (a' := []) [] [] rfl ⟨rfl, rfl, rfl, rfl, trivial⟩ trivial rfl rfl (by decide) (by decide) ?_
        obtain ⟨g117a, g117b⟩ := g117
        refine T_ld 45 (.int (i32 q)) rfl (fun _ => rfl) ?_
        refine T_call 48 256 [.ref 189, .int (i32 x116), .int (i32 q)] [] rfl (fun _ => rfl) rfl (c_want w (mO m [(10, (m.1 10)), (11, (m.1 11))] []) c N D (by omega) (Ty_mO hT rfl rfl ⟨f10, f11, trivial⟩ trivial) x116 q (r32 (by omega) (by omega)) (r32 (by omega) (by omega)) (show 0 ≤ q ∧ q ≤ 4000 by omega) (fun (h : (m.1 10) = 0) => absurd h (by omega))) (fun rr118 k119 => ?_)
        obtain ⟨m120, hT121, h122, c123, rfl⟩ := k119
        refine ⟨_, _, rfl, ?_⟩
        refine T_nf2 (st' := []) (l' := [(10, (m120.1 10)), (11, (m120.1 11))]) (a' := []) [10, 11] [] rfl ⟨rfl, rfl, rfl, rfl, trivial⟩ trivial rfl rfl (by decide) (by decide) ?_
        have g124 : 0 ≤ m120.1 10 ∧ m120.1 10 ≤ 8 := hT121.1 10
        have g125 : (-1) ≤ m120.1 11 ∧ m120.1 11 ≤ 4000 := hT121.1 11
        replace h122 : (m120.1 10) = 0 → (m.1 10) = 0 := h122
        have hf126 : 1 ≤ (m120.1 10) := by omega
        clear c123
        clear h122
        clear g117a g117b
        refine T_goto 68 rfl (fun _ => rfl) ?_
        refine T_ld 69 (.int (i32 a)) rfl (fun _ => rfl) ?_
        refine T_ret rfl (fun _ => rfl) ?_
        exact ⟨(mO m [(10, (m120.1 10)), (11, (m120.1 11))] []), a, (Ty_mO hT rfl rfl ⟨(hT121.1 10), (hT121.1 11), trivial⟩ trivial), ⟨by omega, by omega⟩, (show (m120.1 10) = 0 → (m.1 10) = 0 by omega), (show a = 64 ∨ a = a ∨ a = e by omega), (fun (h : (m120.1 10) = 0) => absurd h (by omega)), rfl⟩
    · skip
      refine T_ld 6 (.int (i32 k)) rfl (fun _ => rfl) ?_
      refine T_if 12 9 rfl rfl rfl (r32 (by omega) (by omega)) (fun (h127 : k = 0) => ?_) (fun (h127 : ¬ (k = 0)) => ?_)
      · skip
        refine T_ld 13 (.int (i32 g)) rfl (fun _ => rfl) ?_
        refine T_if 31 16 rfl rfl rfl (r32 (by omega) (by omega)) (fun (h128 : g = 0) => ?_) (fun (h128 : ¬ (g = 0)) => ?_)
        · skip
          refine T_ld 33 (.int (i32 k)) rfl (fun _ => rfl) ?_
          refine T_if 51 36 rfl rfl rfl (r32 (by omega) (by omega)) (fun (h129 : k = 0) => ?_) (fun (h129 : ¬ (k = 0)) => by exfalso; omega)
          refine T_ld 52 (.ref 189) rfl (fun _ => rfl) ?_
          refine T_ld 53 (.int (i32 a)) rfl (fun _ => rfl) ?_
          refine T_ld 55 (.int (i32 e)) rfl (fun _ => rfl) ?_
          refine T_icmp 62 58 rfl rfl rfl (r32 (by omega) (by omega)) (r32 (by omega) (by omega)) (fun (h130 : a ≠ e) => ?_) (fun (h130 : ¬ (a ≠ e)) => ?_)
          · skip
            refine T_ld 63 (.int (i32 0)) rfl (fun _ => rfl) ?_
            refine T_ld 65 (.int (i32 q)) rfl (fun _ => rfl) ?_
            refine T_call 68 256 [.ref 189, .int (i32 0), .int (i32 q)] [] rfl (fun _ => rfl) rfl (c_want w (mO m [(10, (m.1 10)), (11, (m.1 11))] []) c N D (by omega) (Ty_mO hT rfl rfl ⟨f10, f11, trivial⟩ trivial) 0 q ⟨by decide, by decide⟩ (r32 (by omega) (by omega)) (show 0 ≤ q ∧ q ≤ 4000 by omega) (fun (h : (m.1 10) = 0) => absurd h (by omega))) (fun rr131 k132 => ?_)
            obtain ⟨m133, hT134, h135, c136, rfl⟩ := k132
            refine ⟨_, _, rfl, ?_⟩
            refine T_nf2 (st' := []) (l' := [(10, (m133.1 10)), (11, (m133.1 11))]) (a' := []) [10, 11] [] rfl ⟨rfl, rfl, rfl, rfl, trivial⟩ trivial rfl rfl (by decide) (by decide) ?_
            have g137 : 0 ≤ m133.1 10 ∧ m133.1 10 ≤ 8 := hT134.1 10
            have g138 : (-1) ≤ m133.1 11 ∧ m133.1 11 ≤ 4000 := hT134.1 11
            replace h135 : (m133.1 10) = 0 → (m.1 10) = 0 := h135
            have hf139 : 1 ≤ (m133.1 10) := by omega
            clear c136
            clear h135
            refine T_ld 69 (.int (i32 a)) rfl (fun _ => rfl) ?_
            refine T_ret rfl (fun _ => rfl) ?_
            exact ⟨(mO m [(10, (m133.1 10)), (11, (m133.1 11))] []), a, (Ty_mO hT rfl rfl ⟨(hT134.1 10), (hT134.1 11), trivial⟩ trivial), ⟨by omega, by omega⟩, (show (m133.1 10) = 0 → (m.1 10) = 0 by omega), (show a = 64 ∨ a = a ∨ a = e by omega), (fun (h : (m133.1 10) = 0) => absurd h (by omega)), rfl⟩
          · skip
            refine T_ld 59 (.int (i32 1)) rfl (fun _ => rfl) ?_
            refine T_goto 63 rfl (fun _ => rfl) ?_
            refine T_ld 65 (.int (i32 q)) rfl (fun _ => rfl) ?_
            refine T_call 68 256 [.ref 189, .int (i32 1), .int (i32 q)] [] rfl (fun _ => rfl) rfl (c_want w (mO m [(10, (m.1 10)), (11, (m.1 11))] []) c N D (by omega) (Ty_mO hT rfl rfl ⟨f10, f11, trivial⟩ trivial) 1 q ⟨by decide, by decide⟩ (r32 (by omega) (by omega)) (show 0 ≤ q ∧ q ≤ 4000 by omega) (fun (h : (m.1 10) = 0) => absurd h (by omega))) (fun rr140 k141 => ?_)
            obtain ⟨m142, hT143, h144, c145, rfl⟩ := k141
            refine ⟨_, _, rfl, ?_⟩
            refine T_nf2 (st' := []) (l' := [(10, (m142.1 10)), (11, (m142.1 11))]) (a' := []) [10, 11] [] rfl ⟨rfl, rfl, rfl, rfl, trivial⟩ trivial rfl rfl (by decide) (by decide) ?_
            have g146 : 0 ≤ m142.1 10 ∧ m142.1 10 ≤ 8 := hT143.1 10
            have g147 : (-1) ≤ m142.1 11 ∧ m142.1 11 ≤ 4000 := hT143.1 11
            replace h144 : (m142.1 10) = 0 → (m.1 10) = 0 := h144
            have hf148 : 1 ≤ (m142.1 10) := by omega
            clear c145
            clear h144
            refine T_ld 69 (.int (i32 a)) rfl (fun _ => rfl) ?_
            refine T_ret rfl (fun _ => rfl) ?_
            exact ⟨(mO m [(10, (m142.1 10)), (11, (m142.1 11))] []), a, (Ty_mO hT rfl rfl ⟨(hT143.1 10), (hT143.1 11), trivial⟩ trivial), ⟨by omega, by omega⟩, (show (m142.1 10) = 0 → (m.1 10) = 0 by omega), (show a = 64 ∨ a = a ∨ a = e by omega), (fun (h : (m142.1 10) = 0) => absurd h (by omega)), rfl⟩
        · skip
          refine T_ld 17 (.ref 189) rfl (fun _ => rfl) ?_
          refine T_ld 18 (.long (i64 v)) rfl (fun _ => rfl) ?_
          refine T_ld 20 (.int (i32 e)) rfl (fun _ => rfl) ?_
          refine T_call 23 262 [.long (i64 v), .int (i32 e)] [.ref 189] rfl (fun _ => rfl) rfl (c_fits w (mO m [(10, (m.1 10)), (11, (m.1 11))] []) c N D (by omega) (Ty_mO hT rfl rfl ⟨f10, f11, trivial⟩ trivial) v e (r64 (by omega) (by omega)) (r32 (by omega) (by omega))) (fun rr149 k150 => ?_)
          obtain ⟨x151, g152, rfl⟩ := k150
          refine ⟨_, _, rfl, ?_⟩
          refine T_nf2 (st' := [.int (i32 x151), .ref 189]) (l' := [(10, (m.1 10)), (11, (m.1 11))]) (a' := []) [] [] rfl ⟨rfl, rfl, rfl, rfl, trivial⟩ trivial rfl rfl (by decide) (by decide) ?_
          obtain ⟨g152a, g152b⟩ := g152
          refine T_ld 25 (.int (i32 p)) rfl (fun _ => rfl) ?_
          refine T_call 28 256 [.ref 189, .int (i32 x151), .int (i32 p)] [] rfl (fun _ => rfl) rfl (c_want w (mO m [(10, (m.1 10)), (11, (m.1 11))] []) c N D (by omega) (Ty_mO hT rfl rfl ⟨f10, f11, trivial⟩ trivial) x151 p (r32 (by omega) (by omega)) (r32 (by omega) (by omega)) (show 0 ≤ p ∧ p ≤ 4000 by omega) (fun (h : (m.1 10) = 0) => absurd h (by omega))) (fun rr153 k154 => ?_)
          obtain ⟨m155, hT156, h157, c158, rfl⟩ := k154
          refine ⟨_, _, rfl, ?_⟩
          refine T_nf2 (st' := []) (l' := [(10, (m155.1 10)), (11, (m155.1 11))]) (a' := []) [10, 11] [] rfl ⟨rfl, rfl, rfl, rfl, trivial⟩ trivial rfl rfl (by decide) (by decide) ?_
          have g159 : 0 ≤ m155.1 10 ∧ m155.1 10 ≤ 8 := hT156.1 10
          have g160 : (-1) ≤ m155.1 11 ∧ m155.1 11 ≤ 4000 := hT156.1 11
          replace h157 : (m155.1 10) = 0 → (m.1 10) = 0 := h157
          have hf161 : 1 ≤ (m155.1 10) := by omega
          clear c158
          clear h157
          clear g152a g152b
          refine T_ld 30 (.int (i32 e)) rfl (fun _ => rfl) ?_
          refine T_ret rfl (fun _ => rfl) ?_
          exact ⟨(mO m [(10, (m155.1 10)), (11, (m155.1 11))] []), e, (Ty_mO hT rfl rfl ⟨(hT156.1 10), (hT156.1 11), trivial⟩ trivial), ⟨by omega, by omega⟩, (show (m155.1 10) = 0 → (m.1 10) = 0 by omega), (show e = 64 ∨ e = a ∨ e = e by omega), (fun (h : (m155.1 10) = 0) => absurd h (by omega)), rfl⟩
      · skip
        refine T_ld 11 (.int (i32 64)) rfl (fun _ => rfl) ?_
        refine T_ret rfl (fun _ => rfl) ?_
        exact ⟨(mO m [(10, (m.1 10)), (11, (m.1 11))] []), 64, (Ty_mO hT rfl rfl ⟨f10, f11, trivial⟩ trivial), ⟨by omega, by omega⟩, (show (m.1 10) = 0 → (m.1 10) = 0 by omega), (show (64 : Int) = 64 ∨ (64 : Int) = a ∨ (64 : Int) = e by omega), (fun (h : (m.1 10) = 0) => absurd h (by omega)), rfl⟩
def Q_unit (m : mR) (c : Nat → Option am_C) (N : Nat) (b : Int) (p : Int) : ag_Re af_T → Prop := fun R => ∃ (M : mR), Ty M ∧ ((M.1 69) = b) ∧ R = (.inl (none), (mhp (mO m [(69, (M.1 69)), (70, (M.1 70)), (71, (M.1 71)), (72, (M.1 72))] []) c, N), 0, 0)
set_option maxHeartbeats 8000000 in
theorem c_unit (w : wX) (m : mR) (c : Nat → Option am_C) (N D : Nat) (hD : 1 ≤ D) (hT : Ty m) (b : Int) (p : Int) (qb : R32 b) (qp : R32 p) (p0 : 0 ≤ b ∧ b ≤ 1024) (p1 : 0 ≤ p ∧ p ≤ 4000) : TC w D 250 [.ref 189, .int (i32 b), .int (i32 p)] (mhp m c, N) (Q_unit m c N b p) := by
  obtain ⟨D, rfl⟩ : ∃ k, D = k + 1 := ⟨D - 1, by omega⟩
  obtain ⟨qba, qbb⟩ := id qb
  obtain ⟨qpa, qpb⟩ := id qp
  have f69 : 0 ≤ m.1 69 ∧ m.1 69 ≤ 1024 := hT.1 69
  have f70 : 0 ≤ m.1 70 ∧ m.1 70 ≤ 4000 := hT.1 70
  have f71 : 0 ≤ m.1 71 ∧ m.1 71 ≤ 1 := hT.1 71
  have f72 : (-9223372036854775808) ≤ m.1 72 ∧ m.1 72 ≤ 9223372036854775807 := hT.1 72
  refine Tc_of rfl ?_
  show TT w D pm_250 (0, [(0, .ref 189), (1, .int (i32 b)), (2, .int (i32 p))], [], (mhp m c, N), 0, 0) (Q_unit m c N b p)
  rw [show (mhp m c, N) = (mhp (mO m [(69, (m.1 69)), (70, (m.1 70)), (71, (m.1 71)), (72, (m.1 72))] []) c, N) from congrArg (fun M => (mhp M c, N)) (mO_pad m [69, 70, 71, 72] [])]
  refine T_ld 1 (.ref 189) rfl (fun _ => rfl) ?_
  refine T_ld 2 (.int (i32 b)) rfl (fun _ => rfl) ?_
  refine T_pf (l' := [(69, b), (70, (m.1 70)), (71, (m.1 71)), (72, (m.1 72))]) 5 b rfl rfl rfl rfl rfl rfl ?_
  have g1 : 0 ≤ b ∧ b ≤ 1024 := ⟨by omega, by omega⟩
  refine T_ld 6 (.ref 189) rfl (fun _ => rfl) ?_
  refine T_ld 7 (.int (i32 p)) rfl (fun _ => rfl) ?_
  refine T_pf (l' := [(69, b), (70, p), (71, (m.1 71)), (72, (m.1 72))]) 10 p rfl rfl rfl rfl rfl rfl ?_
  have g2 : 0 ≤ p ∧ p ≤ 4000 := ⟨by omega, by omega⟩
  refine T_ld 11 (.ref 189) rfl (fun _ => rfl) ?_
  refine T_ld 12 (.int (i32 0)) rfl (fun _ => rfl) ?_
  refine T_pf (l' := [(69, b), (70, p), (71, 0), (72, (m.1 72))]) 15 0 rfl rfl rfl rfl rfl rfl ?_
  refine T_ld 16 (.ref 189) rfl (fun _ => rfl) ?_
  refine T_ld 17 (.long (i64 0)) rfl (fun _ => rfl) ?_
  refine T_pf (l' := [(69, b), (70, p), (71, 0), (72, 0)]) 20 0 rfl rfl rfl rfl rfl rfl ?_
  refine T_ret rfl (fun _ => rfl) ?_
  exact ⟨(mO m [(69, b), (70, p), (71, 0), (72, 0)] []), (Ty_mO hT rfl rfl ⟨g1, g2, ⟨(by omega : (0 : Int) ≤ 0), (by omega : (0 : Int) ≤ 1)⟩, ⟨(by omega : ((-9223372036854775808) : Int) ≤ 0), (by omega : (0 : Int) ≤ 9223372036854775807)⟩, trivial⟩ trivial), (show b = b by omega), rfl⟩
def Q_open (m : mR) (c : Nat → Option am_C) (N : Nat) (k : Int) (p : Int) (s : Int) : ag_Re af_T → Prop := fun R => ∃ (M : mR), Ty M ∧ ((M.1 73) = (m.1 73) + 1) ∧ ((M.2 76) = upI (m.2 76) (m.1 73) k) ∧ ((M.2 78) = upI (m.2 78) (m.1 73) s) ∧ ((M.2 79) = upI (m.2 79) (m.1 73) 0) ∧ (∀ j, j < 9 * (m.1 73) → (M.2 80) j = (m.2 80) j) ∧ (∀ j, 9 * (m.1 73) ≤ j → j < 9 * (m.1 73) + 9 → (M.2 80) j = -1) ∧ R = (.inl (none), (mhp (mO m [(73, (M.1 73))] [(76, (M.2 76)), (77, (M.2 77)), (78, (M.2 78)), (79, (M.2 79)), (80, (M.2 80))]) c, N), 0, 0)
set_option maxHeartbeats 8000000 in
theorem c_open (w : wX) (m : mR) (c : Nat → Option am_C) (N D : Nat) (hD : 1 ≤ D) (hT : Ty m) (k : Int) (p : Int) (s : Int) (qk : R32 k) (qp : R32 p) (qs : R32 s) (p0 : (m.1 73) ≤ 59) (p1 : 0 ≤ k ∧ k ≤ 2) (p2 : 0 ≤ p ∧ p ≤ 4000) (p3 : 0 ≤ s ∧ s ≤ 330) : TC w D 246 [.ref 189, .int (i32 k), .int (i32 p), .int (i32 s)] (mhp m c, N) (Q_open m c N k p s) := by
  obtain ⟨D, rfl⟩ : ∃ k, D = k + 1 := ⟨D - 1, by omega⟩
  obtain ⟨qka, qkb⟩ := id qk
  obtain ⟨qpa, qpb⟩ := id qp
  obtain ⟨qsa, qsb⟩ := id qs
  have f73 : 0 ≤ m.1 73 ∧ m.1 73 ≤ 60 := hT.1 73
  refine Tc_of rfl ?_
  show TT w D pm_246 (0, [(0, .ref 189), (1, .int (i32 k)), (2, .int (i32 p)), (3, .int (i32 s))], [], (mhp m c, N), 0, 0) (Q_open m c N k p s)
  rw [show (mhp m c, N) = (mhp (mO m [(73, (m.1 73))] [(76, (m.2 76)), (77, (m.2 77)), (78, (m.2 78)), (79, (m.2 79)), (80, (m.2 80))]) c, N) from congrArg (fun M => (mhp M c, N)) (mO_pad m [73] [76, 77, 78, 79, 80])]
  refine T_gf 4 (.ref 238) rfl rfl rfl rfl rfl rfl ?_
  refine T_gf 8 (.int (i32 (m.1 73))) rfl rfl rfl rfl rfl rfl ?_
  refine T_ld 9 (.int (i32 k)) rfl (fun _ => rfl) ?_
  have G1 : ∀ j, 0 ≤ (upI (m.2 76) (m.1 73) k) j ∧ (upI (m.2 76) (m.1 73) k) j ≤ 2 := upI_rg (hT.2.1 76) ⟨by omega, by omega⟩
  refine T_iast (a' := [(76, upI (m.2 76) (m.1 73) k), (77, (m.2 77)), (78, (m.2 78)), (79, (m.2 79)), (80, (m.2 80))]) 10 76 (m.2 76) rfl rfl rfl (by omega) (show (m.1 73) < (60 : Int) by omega) rfl rfl ?_
  refine T_gf 14 (.ref 239) rfl rfl rfl rfl rfl rfl ?_
  refine T_gf 18 (.int (i32 (m.1 73))) rfl rfl rfl rfl rfl rfl ?_
  refine T_ld 19 (.int (i32 p)) rfl (fun _ => rfl) ?_
  have G2 : ∀ j, 0 ≤ (upI (m.2 77) (m.1 73) p) j ∧ (upI (m.2 77) (m.1 73) p) j ≤ 4000 := upI_rg (hT.2.1 77) ⟨by omega, by omega⟩
  refine T_iast (a' := [(76, upI (m.2 76) (m.1 73) k), (77, upI (m.2 77) (m.1 73) p), (78, (m.2 78)), (79, (m.2 79)), (80, (m.2 80))]) 20 77 (m.2 77) rfl rfl rfl (by omega) (show (m.1 73) < (60 : Int) by omega) rfl rfl ?_
  refine T_gf 24 (.ref 240) rfl rfl rfl rfl rfl rfl ?_
  refine T_gf 28 (.int (i32 (m.1 73))) rfl rfl rfl rfl rfl rfl ?_
  refine T_ld 29 (.int (i32 s)) rfl (fun _ => rfl) ?_
  have G3 : ∀ j, 0 ≤ (upI (m.2 78) (m.1 73) s) j ∧ (upI (m.2 78) (m.1 73) s) j ≤ 330 := upI_rg (hT.2.1 78) ⟨by omega, by omega⟩
  refine T_iast (a' := [(76, upI (m.2 76) (m.1 73) k), (77, upI (m.2 77) (m.1 73) p), (78, upI (m.2 78) (m.1 73) s), (79, (m.2 79)), (80, (m.2 80))]) 30 78 (m.2 78) rfl rfl rfl (by omega) (show (m.1 73) < (60 : Int) by omega) rfl rfl ?_
  refine T_gf 34 (.ref 241) rfl rfl rfl rfl rfl rfl ?_
  refine T_gf 38 (.int (i32 (m.1 73))) rfl rfl rfl rfl rfl rfl ?_
  refine T_ld 39 (.int (i32 0)) rfl (fun _ => rfl) ?_
  have G4 : ∀ j, 0 ≤ (upI (m.2 79) (m.1 73) 0) j ∧ (upI (m.2 79) (m.1 73) 0) j ≤ 2 := upI_rg (hT.2.1 79) ⟨by omega, by omega⟩
  refine T_iast (a' := [(76, upI (m.2 76) (m.1 73) k), (77, upI (m.2 77) (m.1 73) p), (78, upI (m.2 78) (m.1 73) s), (79, upI (m.2 79) (m.1 73) 0), (80, (m.2 80))]) 40 79 (m.2 79) rfl rfl rfl (by omega) (show (m.1 73) < (60 : Int) by omega) rfl rfl ?_
  refine T_ld 41 (.int (i32 0)) rfl (fun _ => rfl) ?_
  refine T_sto 43 [(4, .int (i32 0)), (0, .ref 189), (1, .int (i32 k)), (2, .int (i32 p)), (3, .int (i32 s))] rfl (fun _ => rfl) ?_
  have L43_7 : ∀ (n : Nat) (v5 : Int) (m6 : mR), (R32 v5) → (Ty m6) → (0 ≤ v5) → (v5 ≤ 9) → (∀ j, j < 9 * (m.1 73) → (m6.2 80) j = (m.2 80) j) → (∀ j, 9 * (m.1 73) ≤ j → j < 9 * (m.1 73) + v5 → (m6.2 80) j = -1) → 9 - v5 < (n : Int) → TT w D pm_246 (43, [(0, .ref 189), (1, .int (i32 k)), (2, .int (i32 p)), (3, .int (i32 s)), (4, .int (i32 v5))], [], (mhp (mO m [(73, (m.1 73))] [(76, upI (m.2 76) (m.1 73) k), (77, upI (m.2 77) (m.1 73) p), (78, upI (m.2 78) (m.1 73) s), (79, upI (m.2 79) (m.1 73) 0), (80, (m6.2 80))]) c, N), 0, 0) (Q_open m c N k p s) := by
    intro n
    induction n with
    | zero =>
      intro v5 m6 q8 q9 ic10 ic11 ic12 ic13 hmu
      obtain ⟨q8a, q8b⟩ := id q8
      have hW1 := ic12
      have hW2 := ic13
      exfalso
      omega
    | succ n ih =>
      intro v5 m6 q8 q9 ic10 ic11 ic12 ic13 hmu
      obtain ⟨q8a, q8b⟩ := id q8
      have hW1 := ic12
      have hW2 := ic13
      have ih15 := ih
      refine T_ld 45 (.int (i32 v5)) rfl (fun _ => rfl) ?_
      refine T_ld 47 (.int (i32 9)) rfl (fun _ => rfl) ?_
      refine T_icmp 72 50 rfl rfl rfl (r32 (by omega) (by omega)) ⟨by decide, by decide⟩ (fun (h16 : (9 : Int) ≤ v5) => ?_) (fun (h16 : ¬ ((9 : Int) ≤ v5)) => ?_)
      · skip
        refine T_ld 73 (.ref 189) rfl (fun _ => rfl) ?_
        refine T_ld 74 (.ref 189) rfl (fun _ => rfl) ?_
        refine T_gf1 77 (.int (i32 (m.1 73))) rfl rfl rfl rfl ?_
        refine T_ld 78 (.int (i32 1)) rfl (fun _ => rfl) ?_
        refine T_iadd 79 rfl rfl ?_
        refine T_pf (l' := [(73, (m.1 73) + 1)]) 82 ((m.1 73) + 1) rfl rfl rfl rfl rfl rfl ?_
        have g17 : 0 ≤ (m.1 73) + 1 ∧ (m.1 73) + 1 ≤ 60 := ⟨by omega, by omega⟩
        refine T_ret rfl (fun _ => rfl) ?_
        exact ⟨(mO m [(73, (m.1 73) + 1)] [(76, upI (m.2 76) (m.1 73) k), (77, upI (m.2 77) (m.1 73) p), (78, upI (m.2 78) (m.1 73) s), (79, upI (m.2 79) (m.1 73) 0), (80, (m6.2 80))]), (Ty_mO hT rfl rfl ⟨g17, trivial⟩ ⟨G1, G2, G3, G4, (q9.2.1 80), trivial⟩), (show ((m.1 73) + 1) = (m.1 73) + 1 by omega), (show (upI (m.2 76) (m.1 73) k) = upI (m.2 76) (m.1 73) k by rfl), (show (upI (m.2 78) (m.1 73) s) = upI (m.2 78) (m.1 73) s by rfl), (show (upI (m.2 79) (m.1 73) 0) = upI (m.2 79) (m.1 73) 0 by rfl), (show ∀ j, j < 9 * (m.1 73) → (m6.2 80) j = (m.2 80) j by first | (exact hW1) | (exfalso; omega)), (show ∀ j, 9 * (m.1 73) ≤ j → j < 9 * (m.1 73) + 9 → (m6.2 80) j = -1 by first | (exact fun j h1 h2 => hW2 j h1 (by omega)) | (exfalso; omega)), rfl⟩
      · skip
        refine T_gf 54 (.ref 242) rfl rfl rfl rfl rfl rfl ?_
        refine T_ld 56 (.int (i32 9)) rfl (fun _ => rfl) ?_
        refine T_gf 60 (.int (i32 (m.1 73))) rfl rfl rfl rfl rfl rfl ?_
        refine T_imul 61 rfl rfl ?_
        refine T_ld 63 (.int (i32 v5)) rfl (fun _ => rfl) ?_
        refine T_iadd 64 rfl rfl ?_
        refine T_ld 65 (.int (i32 (-1))) rfl (fun _ => rfl) ?_
        have G18 : ∀ j, (-1) ≤ (upI (m6.2 80) ((9 * (m.1 73)) + v5) (-1)) j ∧ (upI (m6.2 80) ((9 * (m.1 73)) + v5) (-1)) j ≤ 330 := upI_rg (q9.2.1 80) ⟨by omega, by omega⟩
        refine T_iast (a' := [(76, upI (m.2 76) (m.1 73) k), (77, upI (m.2 77) (m.1 73) p), (78, upI (m.2 78) (m.1 73) s), (79, upI (m.2 79) (m.1 73) 0), (80, upI (m6.2 80) ((9 * (m.1 73)) + v5) (-1))]) 66 80 (m6.2 80) rfl rfl rfl (by omega) (show ((9 * (m.1 73)) + v5) < (540 : Int) by omega) rfl rfl ?_
        refine T_iinc 69 [(4, .int (i32 (v5 + 1))), (0, .ref 189), (1, .int (i32 k)), (2, .int (i32 p)), (3, .int (i32 s))] rfl rfl (by decide) rfl rfl ?_
        refine T_goto 43 rfl (fun _ => rfl) ?_
        refine Tm_lv (a := [(0, .ref 189), (1, .int (i32 k)), (2, .int (i32 p)), (3, .int (i32 s)), (4, .int (i32 (v5 + 1)))]) rfl rfl ⟨rfl, rfl, rfl, rfl, rfl, trivial⟩ ?_
        exact ih15 (v5 + 1) (mO m [(73, (m.1 73))] [(76, upI (m.2 76) (m.1 73) k), (77, upI (m.2 77) (m.1 73) p), (78, upI (m.2 78) (m.1 73) s), (79, upI (m.2 79) (m.1 73) 0), (80, upI (m6.2 80) ((9 * (m.1 73)) + v5) (-1))]) (r32 (by omega) (by omega)) (Ty_mO hT rfl rfl ⟨f73, trivial⟩ ⟨G1, G2, G3, G4, G18, trivial⟩) (show 0 ≤ (v5 + 1) by omega) (show (v5 + 1) ≤ 9 by omega) (show ∀ j, j < 9 * (m.1 73) → (upI (m6.2 80) ((9 * (m.1 73)) + v5) (-1)) j = (m.2 80) j by first | exact fun j _ => rfl | exact fun j h1 => (upI_n (by omega)).trans (hW1 j h1)) (show ∀ j, 9 * (m.1 73) ≤ j → j < 9 * (m.1 73) + (v5 + 1) → (upI (m6.2 80) ((9 * (m.1 73)) + v5) (-1)) j = -1 by first | (intro j h1 h2; omega) | (intro j h1 h2; by_cases e : j = 9 * (m.1 73) + v5; (rw [e, upI_s]); (rw [upI_n e]; exact hW2 j h1 (by omega)))) (show 9 - (v5 + 1) < (n : Int) by omega)
  refine Tm_lv (a := [(0, .ref 189), (1, .int (i32 k)), (2, .int (i32 p)), (3, .int (i32 s)), (4, .int (i32 0))]) rfl rfl ⟨rfl, rfl, rfl, rfl, rfl, trivial⟩ ?_
  exact L43_7 ((9 - (0 : Int) : Int) + 1).toNat 0 (mO m [(73, (m.1 73))] [(76, upI (m.2 76) (m.1 73) k), (77, upI (m.2 77) (m.1 73) p), (78, upI (m.2 78) (m.1 73) s), (79, upI (m.2 79) (m.1 73) 0), (80, (m.2 80))]) ⟨by decide, by decide⟩ (Ty_mO hT rfl rfl ⟨f73, trivial⟩ ⟨G1, G2, G3, G4, (hT.2.1 80), trivial⟩) (show 0 ≤ (0 : Int) by omega) (show (0 : Int) ≤ 9 by omega) (show ∀ j, j < 9 * (m.1 73) → (m.2 80) j = (m.2 80) j by first | exact fun j _ => rfl | exact fun j h1 => (upI_n (by omega)).trans (hW1 j h1)) (show ∀ j, 9 * (m.1 73) ≤ j → j < 9 * (m.1 73) + (0 : Int) → (m.2 80) j = -1 by first | (intro j h1 h2; omega) | (intro j h1 h2; by_cases e : j = 9 * (m.1 73) + v5; (rw [e, upI_s]); (rw [upI_n e]; exact hW2 j h1 (by omega)))) (show 9 - (0 : Int) < ((((9 - (0 : Int) : Int) + 1).toNat : Nat) : Int) by omega)
def Q_beginChoice (m : mR) (c : Nat → Option am_C) (N : Nat) (B : Int) (U : Int) : ag_Re af_T → Prop := fun R => ∃ (M : mR), Ty M ∧ ((M.1 10) = 0 → (m.1 10) = 0) ∧ (M.1 10 = 0 → (XS (m.2 65) (m.2 67) (M.2 76) (M.2 78) (M.2 79) (M.2 80) B (m.1 28) (M.1 73) (M.1 74) U) ∧ ((M.1 73) = (m.1 73) + 1) ∧ ((M.1 75) = 0)) ∧ R = (.inl (none), (mhp (mO m [(10, (M.1 10)), (11, (M.1 11)), (73, (M.1 73)), (74, (M.1 74)), (75, (M.1 75))] [(76, (M.2 76)), (77, (M.2 77)), (78, (M.2 78)), (79, (M.2 79)), (80, (M.2 80))]) c, N), 0, 0)
set_option maxHeartbeats 8000000 in
theorem c_beginChoice (w : wX) (m : mR) (c : Nat → Option am_C) (N D : Nat) (hD : 2 ≤ D) (hT : Ty m) (B : Int) (U : Int) (hC : m.1 10 = 0 → (XT (m.2 65) (m.2 67) (m.2 76) (m.2 78) (m.2 79) (m.2 80) B (m.1 28) (m.1 73) (m.1 74) U) ∧ ((m.1 73) = 0 ∨ (m.2 76) ((m.1 73) - 1) = 2 ∨ ((m.2 76) ((m.1 73) - 1) = 0 ∧ (m.2 79) ((m.1 73) - 1) = 2))) : TC w D 245 [.ref 189] (mhp m c, N) (Q_beginChoice m c N B U) := by
  obtain ⟨D, rfl⟩ : ∃ k, D = k + 1 := ⟨D - 1, by omega⟩
  have f10 : 0 ≤ m.1 10 ∧ m.1 10 ≤ 8 := hT.1 10
  have f11 : (-1) ≤ m.1 11 ∧ m.1 11 ≤ 4000 := hT.1 11
  have f73 : 0 ≤ m.1 73 ∧ m.1 73 ≤ 60 := hT.1 73
  have f74 : 0 ≤ m.1 74 ∧ m.1 74 ≤ 24 := hT.1 74
  have f75 : 0 ≤ m.1 75 ∧ m.1 75 ≤ 3 := hT.1 75
  have f28 : 0 ≤ m.1 28 ∧ m.1 28 ≤ 800 := hT.1 28
  refine Tc_of rfl ?_
  show TT w D pm_245 (0, [(0, .ref 189)], [], (mhp m c, N), 0, 0) (Q_beginChoice m c N B U)
  rw [show (mhp m c, N) = (mhp (mO m [(10, (m.1 10)), (11, (m.1 11)), (73, (m.1 73)), (74, (m.1 74)), (75, (m.1 75))] [(76, (m.2 76)), (77, (m.2 77)), (78, (m.2 78)), (79, (m.2 79)), (80, (m.2 80))]) c, N) from congrArg (fun M => (mhp M c, N)) (mO_pad m [10, 11, 73, 74, 75] [76, 77, 78, 79, 80])]
  by_cases hf0 : m.1 10 = 0
  · skip
    obtain ⟨hXT, hTop⟩ := hC hf0
    have hb := OS_hi hXT.2
    refine T_gf 4 (.int (i32 (m.1 10))) rfl rfl rfl rfl rfl rfl ?_
    refine T_if 8 7 rfl rfl rfl (r32 (by omega) (by omega)) (fun (h2 : (m.1 10) ≤ 0) => ?_) (fun (h2 : ¬ ((m.1 10) ≤ 0)) => by exfalso; omega)
    refine T_gf 12 (.int (i32 (m.1 74))) rfl rfl rfl rfl rfl rfl ?_
    refine T_ld 14 (.int (i32 24)) rfl (fun _ => rfl) ?_
    refine T_icmp 26 17 rfl rfl rfl (r32 (by omega) (by omega)) ⟨by decide, by decide⟩ (fun (h3 : (m.1 74) ≠ 24) => ?_) (fun (h3 : ¬ ((m.1 74) ≠ 24)) => ?_)
    · skip
      refine T_gf 30 (.int (i32 (m.1 10))) rfl rfl rfl rfl rfl rfl ?_
      refine T_if 34 33 rfl rfl rfl (r32 (by omega) (by omega)) (fun (h4 : (m.1 10) ≤ 0) => ?_) (fun (h4 : ¬ ((m.1 10) ≤ 0)) => by exfalso; omega)
      refine T_ld 35 (.ref 189) rfl (fun _ => rfl) ?_
      refine T_ld 36 (.ref 189) rfl (fun _ => rfl) ?_
      refine T_gf1 39 (.int (i32 (m.1 74))) rfl rfl rfl rfl ?_
      refine T_ld 40 (.int (i32 1)) rfl (fun _ => rfl) ?_
      refine T_iadd 41 rfl rfl ?_
      refine T_pf (l' := [(10, (m.1 10)), (11, (m.1 11)), (73, (m.1 73)), (74, (m.1 74) + 1), (75, (m.1 75))]) 44 ((m.1 74) + 1) rfl rfl rfl rfl rfl rfl ?_
      have g5 : 0 ≤ (m.1 74) + 1 ∧ (m.1 74) + 1 ≤ 24 := ⟨by omega, by omega⟩
      refine T_ld 45 (.ref 189) rfl (fun _ => rfl) ?_
      refine T_ld 46 (.int (i32 0)) rfl (fun _ => rfl) ?_
      have f8 : 0 ≤ m.1 8 ∧ m.1 8 ≤ 4000 := hT.1 8
      refine T_gf 50 (.int (i32 (m.1 8))) rfl rfl rfl rfl rfl rfl ?_
      refine T_ld 51 (.int (i32 0)) rfl (fun _ => rfl) ?_
      refine T_call 54 246 [.ref 189, .int (i32 0), .int (i32 (m.1 8)), .int (i32 0)] [] rfl (fun _ => rfl) rfl (c_open w (mO m [(10, (m.1 10)), (11, (m.1 11)), (73, (m.1 73)), (74, (m.1 74) + 1), (75, (m.1 75))] [(76, (m.2 76)), (77, (m.2 77)), (78, (m.2 78)), (79, (m.2 79)), (80, (m.2 80))]) c N D (by omega) (Ty_mO hT rfl rfl ⟨f10, f11, f73, g5, f75, trivial⟩ ⟨(hT.2.1 76), (hT.2.1 77), (hT.2.1 78), (hT.2.1 79), (hT.2.1 80), trivial⟩) 0 (m.1 8) 0 ⟨by decide, by decide⟩ (r32 (by omega) (by omega)) ⟨by decide, by decide⟩ (show (m.1 73) ≤ 59 by omega) (show 0 ≤ (0 : Int) ∧ (0 : Int) ≤ 2 by omega) (show 0 ≤ (m.1 8) ∧ (m.1 8) ≤ 4000 by omega) (show 0 ≤ (0 : Int) ∧ (0 : Int) ≤ 330 by omega)) (fun rr6 k7 => ?_)
      obtain ⟨m8, hT9, h10, h11, h12, h13, h14, h15, rfl⟩ := k7
      refine ⟨_, _, rfl, ?_⟩
      refine T_nf2 (st' := []) (l' := [(10, (m.1 10)), (11, (m.1 11)), (73, (m8.1 73)), (74, (m.1 74) + 1), (75, (m.1 75))]) (a' := [(76, (m8.2 76)), (77, (m8.2 77)), (78, (m8.2 78)), (79, (m8.2 79)), (80, (m8.2 80))]) [73] [76, 77, 78, 79, 80] rfl ⟨rfl, rfl, rfl, rfl, rfl, rfl, rfl, rfl, rfl, rfl, rfl, rfl, trivial⟩ ⟨rfl, rfl, rfl, rfl, rfl, rfl, rfl, rfl, rfl, rfl, trivial⟩ rfl rfl (by decide) (by decide) ?_
      have g16 : 0 ≤ m8.1 73 ∧ m8.1 73 ≤ 60 := hT9.1 73
      replace h10 : (m8.1 73) = (m.1 73) + 1 := h10
      have hO0 := h10
      replace h11 : (m8.2 76) = upI (m.2 76) (m.1 73) (0 : Int) := h11
      have hO1 := h11
      replace h12 : (m8.2 78) = upI (m.2 78) (m.1 73) (0 : Int) := h12
      have hO2 := h12
      replace h13 : (m8.2 79) = upI (m.2 79) (m.1 73) 0 := h13
      have hO3 := h13
      replace h14 : ∀ j, j < 9 * (m.1 73) → (m8.2 80) j = (m.2 80) j := h14
      have hW1 := h14
      replace h15 : ∀ j, 9 * (m.1 73) ≤ j → j < 9 * (m.1 73) + 9 → (m8.2 80) j = -1 := h15
      have hW2 := h15
      refine T_ld 55 (.ref 189) rfl (fun _ => rfl) ?_
      refine T_ld 56 (.int (i32 0)) rfl (fun _ => rfl) ?_
      refine T_pf (l' := [(10, (m.1 10)), (11, (m.1 11)), (73, (m8.1 73)), (74, (m.1 74) + 1), (75, 0)]) 59 0 rfl rfl rfl rfl rfl rfl ?_
      refine T_ret rfl (fun _ => rfl) ?_
      exact ⟨(mO m [(10, (m.1 10)), (11, (m.1 11)), (73, (m8.1 73)), (74, (m.1 74) + 1), (75, 0)] [(76, (m8.2 76)), (77, (m8.2 77)), (78, (m8.2 78)), (79, (m8.2 79)), (80, (m8.2 80))]), (Ty_mO hT rfl rfl ⟨f10, f11, (hT9.1 73), g5, ⟨(by omega : (0 : Int) ≤ 0), (by omega : (0 : Int) ≤ 3)⟩, trivial⟩ ⟨(hT9.2.1 76), (hT9.2.1 77), (hT9.2.1 78), (hT9.2.1 79), (hT9.2.1 80), trivial⟩), (show (m.1 10) = 0 → (m.1 10) = 0 by omega), (fun _ => ⟨(show XS (m.2 65) (m.2 67) (m8.2 76) (m8.2 78) (m8.2 79) (m8.2 80) B (m.1 28) (m8.1 73) ((m.1 74) + 1) U by first | (rw [hO0, hO1, hO2, hO3]; exact XS_cho hXT hTop hW1 hW2) | (exfalso; omega)), (show (m8.1 73) = (m.1 73) + 1 by omega), (show (0 : Int) = 0 by omega)⟩), rfl⟩
    · skip
      refine T_ld 18 (.ref 189) rfl (fun _ => rfl) ?_
      refine T_ld 19 (.int (i32 4)) rfl (fun _ => rfl) ?_
      have f8 : 0 ≤ m.1 8 ∧ m.1 8 ≤ 4000 := hT.1 8
      refine T_gf 23 (.int (i32 (m.1 8))) rfl rfl rfl rfl rfl rfl ?_
      refine T_call 26 222 [.ref 189, .int (i32 4), .int (i32 (m.1 8))] [] rfl (fun _ => rfl) rfl (c_wrong w (mO m [(10, (m.1 10)), (11, (m.1 11)), (73, (m.1 73)), (74, (m.1 74)), (75, (m.1 75))] [(76, (m.2 76)), (77, (m.2 77)), (78, (m.2 78)), (79, (m.2 79)), (80, (m.2 80))]) c N D (by omega) (Ty_mO hT rfl rfl ⟨f10, f11, f73, f74, f75, trivial⟩ ⟨(hT.2.1 76), (hT.2.1 77), (hT.2.1 78), (hT.2.1 79), (hT.2.1 80), trivial⟩) 4 (m.1 8) ⟨by decide, by decide⟩ (r32 (by omega) (by omega)) (show 1 ≤ (4 : Int) ∧ (4 : Int) ≤ 8 by omega) (show 0 ≤ (m.1 8) ∧ (m.1 8) ≤ 4000 by omega)) (fun rr17 k18 => ?_)
      obtain ⟨y19, y21, g20, g22, h23, rfl⟩ := k18
      refine ⟨_, _, rfl, ?_⟩
      refine T_nf2 (st' := []) (l' := [(10, y19), (11, y21), (73, (m.1 73)), (74, (m.1 74)), (75, (m.1 75))]) (a' := [(76, (m.2 76)), (77, (m.2 77)), (78, (m.2 78)), (79, (m.2 79)), (80, (m.2 80))]) [10, 11] [] rfl ⟨rfl, rfl, rfl, rfl, rfl, rfl, rfl, rfl, rfl, rfl, trivial⟩ ⟨rfl, rfl, rfl, rfl, rfl, rfl, rfl, rfl, rfl, rfl, trivial⟩ rfl rfl (by decide) (by decide) ?_
      replace h23 : (0 < (m.1 10) → y19 = (m.1 10) ∧ y21 = (m.1 11)) ∧ ((m.1 10) ≤ 0 → y19 = (4 : Int) ∧ y21 = (m.1 8)) := h23
      have hf24 : 1 ≤ y19 := by omega
      refine T_gf 30 (.int (i32 y19)) rfl rfl rfl rfl rfl rfl ?_
      refine T_if 34 33 rfl rfl rfl (r32 (by omega) (by omega)) (fun (h25 : y19 ≤ 0) => by exfalso; omega) (fun (h25 : ¬ (y19 ≤ 0)) => ?_)
      refine T_ret rfl (fun _ => rfl) ?_
      exact ⟨(mO m [(10, y19), (11, y21), (73, (m.1 73)), (74, (m.1 74)), (75, (m.1 75))] [(76, (m.2 76)), (77, (m.2 77)), (78, (m.2 78)), (79, (m.2 79)), (80, (m.2 80))]), (Ty_mO hT rfl rfl ⟨g20, g22, f73, f74, f75, trivial⟩ ⟨(hT.2.1 76), (hT.2.1 77), (hT.2.1 78), (hT.2.1 79), (hT.2.1 80), trivial⟩), (show y19 = 0 → (m.1 10) = 0 by omega), (fun (h : y19 = 0) => absurd h (by omega)), rfl⟩
  · skip
    clear hC
    refine T_gf 4 (.int (i32 (m.1 10))) rfl rfl rfl rfl rfl rfl ?_
    refine T_if 8 7 rfl rfl rfl (r32 (by omega) (by omega)) (fun (h26 : (m.1 10) ≤ 0) => by exfalso; omega) (fun (h26 : ¬ ((m.1 10) ≤ 0)) => ?_)
    refine T_ret rfl (fun _ => rfl) ?_
    exact ⟨(mO m [(10, (m.1 10)), (11, (m.1 11)), (73, (m.1 73)), (74, (m.1 74)), (75, (m.1 75))] [(76, (m.2 76)), (77, (m.2 77)), (78, (m.2 78)), (79, (m.2 79)), (80, (m.2 80))]), (Ty_mO hT rfl rfl ⟨f10, f11, f73, f74, f75, trivial⟩ ⟨(hT.2.1 76), (hT.2.1 77), (hT.2.1 78), (hT.2.1 79), (hT.2.1 80), trivial⟩), (show (m.1 10) = 0 → (m.1 10) = 0 by omega), (fun (h : (m.1 10) = 0) => absurd h (by omega)), rfl⟩
def Q_parameterHere (m : mR) (c : Nat → Option am_C) (N : Nat) : ag_Re af_T → Prop := fun R => ∃ (r : Int), ((-2147483648) ≤ r ∧ r ≤ 2147483647) ∧ (-1 ≤ r ∧ r ≤ 63) ∧ R = (.inl (some (.int (i32 r))), (mhp (mO m [] []) c, N), 0, 0)
set_option maxHeartbeats 8000000 in
theorem c_parameterHere (w : wX) (m : mR) (c : Nat → Option am_C) (N D : Nat) (hD : 2 ≤ D) (hT : Ty m) (p0 : 1 ≤ (m.1 9) ∧ (m.1 8) + (m.1 9) ≤ (m.1 6)) (p1 : ∀ k, (m.2 47) k + (m.2 48) k ≤ 4000) : TC w D 252 [.ref 189] (mhp m c, N) (Q_parameterHere m c N) := by
  obtain ⟨D, rfl⟩ : ∃ k, D = k + 1 := ⟨D - 1, by omega⟩
  have f8 : 0 ≤ m.1 8 ∧ m.1 8 ≤ 4000 := hT.1 8
  have f6 : 0 ≤ m.1 6 ∧ m.1 6 ≤ 4000 := hT.1 6
  have f9 : 0 ≤ m.1 9 ∧ m.1 9 ≤ 4000 := hT.1 9
  refine Tc_of rfl ?_
  show TT w D pm_252 (0, [(0, .ref 189)], [], (mhp m c, N), 0, 0) (Q_parameterHere m c N)
  rw [show (mhp m c, N) = (mhp (mO m [] []) c, N) from rfl]
  refine T_ld 1 (.int (i32 (-1))) rfl (fun _ => rfl) ?_
  refine T_sto 2 [(1, .int (i32 (-1))), (0, .ref 189)] rfl (fun _ => rfl) ?_
  have f64 : (-1) ≤ m.1 64 ∧ m.1 64 ≤ 15 := hT.1 64
  refine T_gf 6 (.int (i32 (m.1 64))) rfl rfl rfl rfl rfl rfl ?_
  refine T_if 63 9 rfl rfl rfl (r32 (by omega) (by omega)) (fun (h1 : (m.1 64) < 0) => ?_) (fun (h1 : ¬ ((m.1 64) < 0)) => ?_)
  · skip
    refine T_ld 64 (.int (i32 (-1))) rfl (fun _ => rfl) ?_
    refine T_ret rfl (fun _ => rfl) ?_
    exact ⟨(-1), ⟨by omega, by omega⟩, (show -1 ≤ (-1 : Int) ∧ (-1 : Int) ≤ 63 by omega), rfl⟩
  · skip
    refine T_ld 10 (.int (i32 4)) rfl (fun _ => rfl) ?_
    refine T_gf 14 (.int (i32 (m.1 64))) rfl rfl rfl rfl rfl rfl ?_
    refine T_imul 15 rfl rfl ?_
    refine T_sto 16 [(2, .int (i32 (4 * (m.1 64)))), (1, .int (i32 (-1))), (0, .ref 189)] rfl (fun _ => rfl) ?_
    have e12 : 0 ≤ m.2 46 (m.1 64) ∧ m.2 46 (m.1 64) ≤ 4 := hT.2.1 46 (m.1 64)
    have L16_4 : ∀ (n : Nat) (v2 : Int) (v3 : Int), (R32 v2) → (R32 v3) → ((-1) ≤ v2) → (0 ≤ v3) → (v3 ≤ (4 * (m.1 64)) + ((m.2 46) (m.1 64))) → (v2 ≤ 63) → ((4 * (m.1 64)) + ((m.2 46) (m.1 64))) - v3 < (n : Int) → TT w D pm_252 (16, [(0, .ref 189), (1, .int (i32 v2)), (2, .int (i32 v3))], [], (mhp (mO m [] []) c, N), 0, 0) (Q_parameterHere m c N) := by
      intro n
      induction n with
      | zero =>
        intro v2 v3 q5 q6 ic7 ic8 ic9 ic10 hmu
        obtain ⟨q5a, q5b⟩ := id q5
        obtain ⟨q6a, q6b⟩ := id q6
        exfalso
        omega
      | succ n ih =>
        intro v2 v3 q5 q6 ic7 ic8 ic9 ic10 hmu
        obtain ⟨q5a, q5b⟩ := id q5
        obtain ⟨q6a, q6b⟩ := id q6
        have ih13 := ih
        refine T_ld 17 (.int (i32 v3)) rfl (fun _ => rfl) ?_
        refine T_ld 18 (.int (i32 4)) rfl (fun _ => rfl) ?_
        refine T_gf 22 (.int (i32 (m.1 64))) rfl rfl rfl rfl rfl rfl ?_
        refine T_imul 23 rfl rfl ?_
        refine T_gf 27 (.ref 216) rfl rfl rfl rfl rfl rfl ?_
        refine T_gf 31 (.int (i32 (m.1 64))) rfl rfl rfl rfl rfl rfl ?_
        refine T_iald 32 46 (m.2 46) rfl rfl rfl (by omega) (show (m.1 64) < (16 : Int) by omega) rfl ?_
        have e14 : 0 ≤ m.2 46 (m.1 64) ∧ m.2 46 (m.1 64) ≤ 4 := hT.2.1 46 (m.1 64)
        refine T_iadd 33 rfl rfl ?_
        refine T_icmp 63 36 rfl rfl rfl (r32 (by omega) (by omega)) (r32 (by omega) (by omega)) (fun (h15 : (4 * (m.1 64)) + ((m.2 46) (m.1 64)) ≤ v3) => ?_) (fun (h15 : ¬ ((4 * (m.1 64)) + ((m.2 46) (m.1 64)) ≤ v3)) => ?_)
        · skip
          refine T_ld 64 (.int (i32 v2)) rfl (fun _ => rfl) ?_
          refine T_ret rfl (fun _ => rfl) ?_
          exact ⟨v2, ⟨by omega, by omega⟩, (show -1 ≤ v2 ∧ v2 ≤ 63 by omega), rfl⟩
        · skip
          have hp2 := p1 v3
          refine T_ld 37 (.ref 189) rfl (fun _ => rfl) ?_
          refine T_gf 41 (.ref 217) rfl rfl rfl rfl rfl rfl ?_
          refine T_ld 42 (.int (i32 v3)) rfl (fun _ => rfl) ?_
          refine T_iald 43 47 (m.2 47) rfl rfl rfl (by omega) (show v3 < (64 : Int) by omega) rfl ?_
          have e16 : 0 ≤ m.2 47 v3 ∧ m.2 47 v3 ≤ 4000 := hT.2.1 47 v3
          refine T_gf 47 (.ref 218) rfl rfl rfl rfl rfl rfl ?_
          refine T_ld 48 (.int (i32 v3)) rfl (fun _ => rfl) ?_
          refine T_iald 49 48 (m.2 48) rfl rfl rfl (by omega) (show v3 < (64 : Int) by omega) rfl ?_
          have e17 : 0 ≤ m.2 48 v3 ∧ m.2 48 v3 ≤ 4000 := hT.2.1 48 v3
          refine T_call 52 230 [.ref 189, .int (i32 ((m.2 47) v3)), .int (i32 ((m.2 48) v3))] [] rfl (fun _ => rfl) rfl (c_isHere w (mO m [] []) c N D (by omega) hT ((m.2 47) v3) ((m.2 48) v3) (r32 (by omega) (by omega)) (r32 (by omega) (by omega)) (show 0 ≤ ((m.2 47) v3) by omega) (show 0 ≤ ((m.2 48) v3) by omega) (show ((m.2 47) v3) + ((m.2 48) v3) ≤ 4000 by omega) (show 1 ≤ (m.1 9) ∧ (m.1 8) + (m.1 9) ≤ (m.1 6) by first | omega | (have h8 := hLx (by omega); omega))) (fun rr18 k19 => ?_)
          obtain ⟨x20, g21, h22, rfl⟩ := k19
          refine ⟨_, _, rfl, ?_⟩
          refine T_nf2 (st' := [.int (i32 x20)]) (l' := []) (a' := []) [] [] rfl trivial trivial rfl rfl (by decide) (by decide) ?_
          obtain ⟨g21a, g21b⟩ := g21
          replace h22 : (x20 = 1 ∧ sameN (m.2 4) (m.1 8) (m.1 9) ((m.2 47) v3) ((m.2 48) v3)) ∨ (x20 = 0 ∧ ¬ sameN (m.2 4) (m.1 8) (m.1 9) ((m.2 47) v3) ((m.2 48) v3)) := h22
          have hh := h22
          refine T_if 57 55 rfl rfl rfl (r32 (by omega) (by omega)) (fun (h23 : x20 = 0) => ?_) (fun (h23 : ¬ (x20 = 0)) => ?_)
          · skip
            refine T_iinc 60 [(2, .int (i32 (v3 + 1))), (0, .ref 189), (1, .int (i32 v2))] rfl rfl (by decide) rfl rfl ?_
            refine T_goto 16 rfl (fun _ => rfl) ?_
            refine Tm_lv (a := [(0, .ref 189), (1, .int (i32 v2)), (2, .int (i32 (v3 + 1)))]) rfl rfl ⟨rfl, rfl, rfl, trivial⟩ ?_
            exact ih13 v2 (v3 + 1) (r32 (by omega) (by omega)) (r32 (by omega) (by omega)) (show (-1) ≤ v2 by omega) (show 0 ≤ (v3 + 1) by omega) (show (v3 + 1) ≤ (4 * (m.1 64)) + ((m.2 46) (m.1 64)) by omega) (show v2 ≤ 63 by omega) (show ((4 * (m.1 64)) + ((m.2 46) (m.1 64))) - (v3 + 1) < (n : Int) by omega)
          · skip
            refine T_ld 56 (.int (i32 v3)) rfl (fun _ => rfl) ?_
            refine T_sto 57 [(1, .int (i32 v3)), (0, .ref 189), (2, .int (i32 v3))] rfl (fun _ => rfl) ?_
            refine T_iinc 60 [(2, .int (i32 (v3 + 1))), (1, .int (i32 v3)), (0, .ref 189)] rfl rfl (by decide) rfl rfl ?_
            refine T_goto 16 rfl (fun _ => rfl) ?_
            refine Tm_lv (a := [(0, .ref 189), (1, .int (i32 v3)), (2, .int (i32 (v3 + 1)))]) rfl rfl ⟨rfl, rfl, rfl, trivial⟩ ?_
            exact ih13 v3 (v3 + 1) (r32 (by omega) (by omega)) (r32 (by omega) (by omega)) (show (-1) ≤ v3 by omega) (show 0 ≤ (v3 + 1) by omega) (show (v3 + 1) ≤ (4 * (m.1 64)) + ((m.2 46) (m.1 64)) by omega) (show v3 ≤ 63 by omega) (show ((4 * (m.1 64)) + ((m.2 46) (m.1 64))) - (v3 + 1) < (n : Int) by omega)
    refine Tm_lv (a := [(0, .ref 189), (1, .int (i32 (-1))), (2, .int (i32 (4 * (m.1 64))))]) rfl rfl ⟨rfl, rfl, rfl, trivial⟩ ?_
    exact L16_4 ((((4 * (m.1 64)) + ((m.2 46) (m.1 64))) - (4 * (m.1 64)) : Int) + 1).toNat (-1) (4 * (m.1 64)) ⟨by decide, by decide⟩ (r32 (by omega) (by omega)) (show (-1) ≤ (-1 : Int) by omega) (show 0 ≤ (4 * (m.1 64)) by omega) (show (4 * (m.1 64)) ≤ (4 * (m.1 64)) + ((m.2 46) (m.1 64)) by omega) (show (-1 : Int) ≤ 63 by omega) (show ((4 * (m.1 64)) + ((m.2 46) (m.1 64))) - (4 * (m.1 64)) < ((((((4 * (m.1 64)) + ((m.2 46) (m.1 64))) - (4 * (m.1 64)) : Int) + 1).toNat : Nat) : Int) by omega)
def Q_bitsOfField (m : mR) (c : Nat → Option am_C) (N : Nat) (f : Int) : ag_Re af_T → Prop := fun R => ∃ (r : Int), (0 ≤ r ∧ r ≤ 64) ∧ R = (.inl (some (.int (i32 r))), (mhp (mO m [] []) c, N), 0, 0)
set_option maxHeartbeats 8000000 in
theorem c_bitsOfField (w : wX) (m : mR) (c : Nat → Option am_C) (N D : Nat) (hD : 1 ≤ D) (hT : Ty m) (f : Int) (qf : R32 f) (p0 : 0 ≤ f ∧ f ≤ 191) : TC w D 254 [.ref 189, .int (i32 f)] (mhp m c, N) (Q_bitsOfField m c N f) := by
  obtain ⟨D, rfl⟩ : ∃ k, D = k + 1 := ⟨D - 1, by omega⟩
  obtain ⟨qfa, qfb⟩ := id qf
  refine Tc_of rfl ?_
  show TT w D pm_254 (0, [(0, .ref 189), (1, .int (i32 f))], [], (mhp m c, N), 0, 0) (Q_bitsOfField m c N f)
  rw [show (mhp m c, N) = (mhp (mO m [] []) c, N) from rfl]
  refine T_gf 4 (.ref 203) rfl rfl rfl rfl rfl rfl ?_
  refine T_ld 6 (.int (i32 16)) rfl (fun _ => rfl) ?_
  refine T_gf 10 (.ref 204) rfl rfl rfl rfl rfl rfl ?_
  refine T_ld 11 (.int (i32 f)) rfl (fun _ => rfl) ?_
  refine T_ld 13 (.int (i32 16)) rfl (fun _ => rfl) ?_
  refine T_idiv 14 rfl rfl (by omega) (by omega) (by omega) (by omega) ?_
  refine T_iald 15 34 (m.2 34) rfl rfl rfl (by omega) (show (f / 16) < (12 : Int) by omega) rfl ?_
  have e1 : 0 ≤ m.2 34 (f / 16) ∧ m.2 34 (f / 16) ≤ 11 := hT.2.1 34 (f / 16)
  refine T_imul 16 rfl rfl ?_
  refine T_ld 17 (.int (i32 f)) rfl (fun _ => rfl) ?_
  refine T_ld 19 (.int (i32 16)) rfl (fun _ => rfl) ?_
  refine T_irem 20 rfl rfl (by omega) (by omega) (by omega) (by omega) ?_
  refine T_iadd 21 rfl rfl ?_
  refine T_iald 22 33 (m.2 33) rfl rfl rfl (by omega) (show ((16 * ((m.2 34) (f / 16))) + (f % 16)) < (192 : Int) by omega) rfl ?_
  have e2 : 0 ≤ m.2 33 ((16 * ((m.2 34) (f / 16))) + (f % 16)) ∧ m.2 33 ((16 * ((m.2 34) (f / 16))) + (f % 16)) ≤ 64 := hT.2.1 33 ((16 * ((m.2 34) (f / 16))) + (f % 16))
  refine T_ret rfl (fun _ => rfl) ?_
  exact ⟨(m.2 33) ((16 * ((m.2 34) (f / 16))) + (f % 16)), ⟨by omega, by omega⟩, rfl⟩
def Q_takeField (m : mR) (c : Nat → Option am_C) (N : Nat) (i : Int) : ag_Re af_T → Prop := fun R => ∃ (M : mR) (r : Int), Ty M ∧ (0 ≤ r ∧ r ≤ 191) ∧ ((M.1 10) = 0 → (m.1 10) = 0) ∧ (LxP (M.1 7) (M.1 8) (M.1 9) (m.1 6) (M.1 10)) ∧ (M.1 10 = 0 → ((m.1 8) + 1 ≤ (M.1 8)) ∧ ((m.1 7) = 1)) ∧ R = (.inl (some (.int (i32 r))), (mhp (mO m [(7, (M.1 7)), (8, (M.1 8)), (9, (M.1 9)), (10, (M.1 10)), (11, (M.1 11)), (12, (M.1 12))] []) c, N), 0, 0)
set_option maxHeartbeats 8000000 in
theorem c_takeField (w : wX) (m : mR) (c : Nat → Option am_C) (N D : Nat) (hD : 6 ≤ D) (hT : Ty m) (i : Int) (qi : R32 i) (hLx0 : LxP (m.1 7) (m.1 8) (m.1 9) (m.1 6) (m.1 10)) (hFA0 : ∀ k, (m.2 31) k + (m.2 32) k ≤ 4000) (p2 : 0 ≤ i ∧ i ≤ 11) (hC : m.1 10 = 0 → True) : TC w D 253 [.ref 189, .int (i32 i)] (mhp m c, N) (Q_takeField m c N i) := by
  obtain ⟨D, rfl⟩ : ∃ k, D = k + 1 := ⟨D - 1, by omega⟩
  obtain ⟨qia, qib⟩ := id qi
  have hLx := hLx0
  have hFA := hFA0
  have f7 : 0 ≤ m.1 7 ∧ m.1 7 ≤ 330 := hT.1 7
  have f8 : 0 ≤ m.1 8 ∧ m.1 8 ≤ 4000 := hT.1 8
  have f9 : 0 ≤ m.1 9 ∧ m.1 9 ≤ 4000 := hT.1 9
  have f10 : 0 ≤ m.1 10 ∧ m.1 10 ≤ 8 := hT.1 10
  have f11 : (-1) ≤ m.1 11 ∧ m.1 11 ≤ 4000 := hT.1 11
  have f12 : (-9223372036854775808) ≤ m.1 12 ∧ m.1 12 ≤ 9223372036854775807 := hT.1 12
  have f6 : 0 ≤ m.1 6 ∧ m.1 6 ≤ 4000 := hT.1 6
  refine Tc_of rfl ?_
  show TT w D pm_253 (0, [(0, .ref 189), (1, .int (i32 i))], [], (mhp m c, N), 0, 0) (Q_takeField m c N i)
  rw [show (mhp m c, N) = (mhp (mO m [(7, (m.1 7)), (8, (m.1 8)), (9, (m.1 9)), (10, (m.1 10)), (11, (m.1 11)), (12, (m.1 12))] []) c, N) from congrArg (fun M => (mhp M c, N)) (mO_pad m [7, 8, 9, 10, 11, 12] [])]
  by_cases hf0 : m.1 10 = 0
  · skip
    have h7 := hLx (by omega)
    have J115_11 : ∀ (v8 : Int) (v9 : Int) (m10 : mR), (R32 v8) → (R32 v9) → (Ty m10) → (0 ≤ v8) → (0 ≤ v9) → (1 ≤ (m10.1 10)) → ((m10.1 10) ≤ 8) → (0 ≤ v8 - 16 * ((m.2 34) i) ∧ v8 - 16 * ((m.2 34) i) ≤ 15) → (0 ≤ ((m.2 34) i) ∧ ((m.2 34) i) ≤ 11) → TT w D pm_253 (115, [(0, .ref 189), (1, .int (i32 i)), (2, .int (i32 ((m.2 34) i))), (3, .int (i32 v8)), (4, .int (i32 v9))], [], (mhp (mO m [(7, (m10.1 7)), (8, (m10.1 8)), (9, (m10.1 9)), (10, (m10.1 10)), (11, (m10.1 11)), (12, (m10.1 12))] []) c, N), 0, 0) (Q_takeField m c N i) := by
      intro v8 v9 m10 q12 q13 q14 ic15 ic16 ic17 ic18 ic19 ic20
      obtain ⟨q12a, q12b⟩ := id q12
      obtain ⟨q13a, q13b⟩ := id q13
      have q14_7 : 0 ≤ m10.1 7 ∧ m10.1 7 ≤ 330 := q14.1 7
      have q14_8 : 0 ≤ m10.1 8 ∧ m10.1 8 ≤ 4000 := q14.1 8
      have q14_9 : 0 ≤ m10.1 9 ∧ m10.1 9 ≤ 4000 := q14.1 9
      have q14_10 : 0 ≤ m10.1 10 ∧ m10.1 10 ≤ 8 := q14.1 10
      have q14_11 : (-1) ≤ m10.1 11 ∧ m10.1 11 ≤ 4000 := q14.1 11
      have q14_12 : (-9223372036854775808) ≤ m10.1 12 ∧ m10.1 12 ≤ 9223372036854775807 := q14.1 12
      refine T_ld 117 (.int (i32 16)) rfl (fun _ => rfl) ?_
      refine T_ld 118 (.int (i32 i)) rfl (fun _ => rfl) ?_
      refine T_imul 119 rfl rfl ?_
      refine T_ld 120 (.int (i32 v8)) rfl (fun _ => rfl) ?_
      refine T_iadd 121 rfl rfl ?_
      refine T_ld 123 (.int (i32 16)) rfl (fun _ => rfl) ?_
      refine T_ld 124 (.int (i32 ((m.2 34) i))) rfl (fun _ => rfl) ?_
      refine T_imul 125 rfl rfl ?_
      refine T_isub 126 rfl rfl ?_
      refine T_ret rfl (fun _ => rfl) ?_
      exact ⟨(mO m [(7, (m10.1 7)), (8, (m10.1 8)), (9, (m10.1 9)), (10, (m10.1 10)), (11, (m10.1 11)), (12, (m10.1 12))] []), ((16 * i) + v8) - (16 * ((m.2 34) i)), (Ty_mO hT rfl rfl ⟨(q14.1 7), (q14.1 8), (q14.1 9), (q14.1 10), (q14.1 11), (q14.1 12), trivial⟩ trivial), ⟨by omega, by omega⟩, (show (m10.1 10) = 0 → (m.1 10) = 0 by omega), (show LxP (m10.1 7) (m10.1 8) (m10.1 9) (m.1 6) (m10.1 10) by first | (first | exact hLx | exact (fun _ => hLx (by omega)) | (intro h9; exfalso; omega)) | (exfalso; omega)), (fun (h : (m10.1 10) = 0) => absurd h (by omega)), rfl⟩
    have J102_25 : ∀ (v22 : Int) (v23 : Int) (m24 : mR), (R32 v22) → (R32 v23) → (Ty m24) → ((-1) ≤ v22) → (v22 ≤ (-1)) → (0 ≤ v23) → (1 ≤ (m24.1 10)) → ((m24.1 10) ≤ 8) → (0 ≤ ((m.2 34) i) ∧ ((m.2 34) i) ≤ 11) → TT w D pm_253 (102, [(0, .ref 189), (1, .int (i32 i)), (2, .int (i32 ((m.2 34) i))), (3, .int (i32 v22)), (4, .int (i32 v23))], [], (mhp (mO m [(7, (m.1 7)), (8, (m.1 8)), (9, (m.1 9)), (10, (m24.1 10)), (11, (m24.1 11)), (12, (m.1 12))] []) c, N), 0, 0) (Q_takeField m c N i) := by
      intro v22 v23 m24 q26 q27 q28 ic29 ic30 ic31 ic32 ic33 ic34
      obtain ⟨q26a, q26b⟩ := id q26
      obtain ⟨q27a, q27b⟩ := id q27
      have q28_10 : 0 ≤ m24.1 10 ∧ m24.1 10 ≤ 8 := q28.1 10
      have q28_11 : (-1) ≤ m24.1 11 ∧ m24.1 11 ≤ 4000 := q28.1 11
      refine T_gf 106 (.int (i32 (m24.1 10))) rfl rfl rfl rfl rfl rfl ?_
      refine T_if 111 109 rfl rfl rfl (r32 (by omega) (by omega)) (fun (h36 : (m24.1 10) ≤ 0) => by exfalso; omega) (fun (h36 : ¬ ((m24.1 10) ≤ 0)) => ?_)
      refine T_ld 110 (.int (i32 0)) rfl (fun _ => rfl) ?_
      refine T_ret rfl (fun _ => rfl) ?_
      exact ⟨(mO m [(7, (m.1 7)), (8, (m.1 8)), (9, (m.1 9)), (10, (m24.1 10)), (11, (m24.1 11)), (12, (m.1 12))] []), 0, (Ty_mO hT rfl rfl ⟨f7, f8, f9, (q28.1 10), (q28.1 11), f12, trivial⟩ trivial), ⟨by omega, by omega⟩, (show (m24.1 10) = 0 → (m.1 10) = 0 by omega), (show LxP (m.1 7) (m.1 8) (m.1 9) (m.1 6) (m24.1 10) by first | (first | exact hLx | exact (fun _ => hLx (by omega)) | (intro h9; exfalso; omega)) | (exfalso; omega)), (fun (h : (m24.1 10) = 0) => absurd h (by omega)), rfl⟩
    refine T_gf 4 (.int (i32 (m.1 10))) rfl rfl rfl rfl rfl rfl ?_
    refine T_if 9 7 rfl rfl rfl (r32 (by omega) (by omega)) (fun (h37 : (m.1 10) ≤ 0) => ?_) (fun (h37 : ¬ ((m.1 10) ≤ 0)) => by exfalso; omega)
    refine T_gf 13 (.ref 204) rfl rfl rfl rfl rfl rfl ?_
    refine T_ld 14 (.int (i32 i)) rfl (fun _ => rfl) ?_
    refine T_iald 15 34 (m.2 34) rfl rfl rfl (by omega) (show i < (12 : Int) by omega) rfl ?_
    have e38 : 0 ≤ m.2 34 i ∧ m.2 34 i ≤ 11 := hT.2.1 34 i
    refine T_sto 16 [(2, .int (i32 ((m.2 34) i))), (0, .ref 189), (1, .int (i32 i))] rfl (fun _ => rfl) ?_
    refine T_ld 17 (.int (i32 (-1))) rfl (fun _ => rfl) ?_
    refine T_sto 18 [(3, .int (i32 (-1))), (2, .int (i32 ((m.2 34) i))), (0, .ref 189), (1, .int (i32 i))] rfl (fun _ => rfl) ?_
    refine T_gf 22 (.int (i32 (m.1 7))) rfl rfl rfl rfl rfl rfl ?_
    refine T_ld 23 (.int (i32 1)) rfl (fun _ => rfl) ?_
    refine T_icmp 32 26 rfl rfl rfl (r32 (by omega) (by omega)) ⟨by decide, by decide⟩ (fun (h39 : (m.1 7) = 1) => ?_) (fun (h39 : ¬ ((m.1 7) = 1)) => ?_)
    · skip
      refine T_ld 34 (.int (i32 16)) rfl (fun _ => rfl) ?_
      refine T_ld 35 (.int (i32 ((m.2 34) i))) rfl (fun _ => rfl) ?_
      refine T_imul 36 rfl rfl ?_
      refine T_sto 38 [(4, .int (i32 (16 * ((m.2 34) i)))), (3, .int (i32 (-1))), (2, .int (i32 ((m.2 34) i))), (0, .ref 189), (1, .int (i32 i))] rfl (fun _ => rfl) ?_
      have e53 : 0 ≤ m.2 29 ((m.2 34) i) ∧ m.2 29 ((m.2 34) i) ≤ 16 := hT.2.1 29 ((m.2 34) i)
      have L38_42 : ∀ (n : Nat) (v40 : Int) (v41 : Int), (R32 v40) → (R32 v41) → ((-1) ≤ v40) → (0 ≤ v41) → (v41 ≤ (16 * ((m.2 34) i)) + ((m.2 29) ((m.2 34) i))) → ((-1) ≤ v40) → (v40 < v41) → (16 * ((m.2 34) i) ≤ v41) → (v40 = -1 ∨ 16 * ((m.2 34) i) ≤ v40) → ((16 * ((m.2 34) i)) + ((m.2 29) ((m.2 34) i))) - v41 < (n : Int) → TT w D pm_253 (38, [(0, .ref 189), (1, .int (i32 i)), (2, .int (i32 ((m.2 34) i))), (3, .int (i32 v40)), (4, .int (i32 v41))], [], (mhp (mO m [(7, (m.1 7)), (8, (m.1 8)), (9, (m.1 9)), (10, (m.1 10)), (11, (m.1 11)), (12, (m.1 12))] []) c, N), 0, 0) (Q_takeField m c N i) := by
        intro n
        induction n with
        | zero =>
          intro v40 v41 q43 q44 ic45 ic46 ic47 ic48 ic49 ic50 ic51 hmu
          obtain ⟨q43a, q43b⟩ := id q43
          obtain ⟨q44a, q44b⟩ := id q44
          exfalso
          omega
        | succ n ih =>
          intro v40 v41 q43 q44 ic45 ic46 ic47 ic48 ic49 ic50 ic51 hmu
          obtain ⟨q43a, q43b⟩ := id q43
          obtain ⟨q44a, q44b⟩ := id q44
          have ih54 := ih
          refine T_ld 40 (.int (i32 v41)) rfl (fun _ => rfl) ?_
          refine T_ld 42 (.int (i32 16)) rfl (fun _ => rfl) ?_
          refine T_ld 43 (.int (i32 ((m.2 34) i))) rfl (fun _ => rfl) ?_
          refine T_imul 44 rfl rfl ?_
          refine T_gf 48 (.ref 199) rfl rfl rfl rfl rfl rfl ?_
          refine T_ld 49 (.int (i32 ((m.2 34) i))) rfl (fun _ => rfl) ?_
          refine T_iald 50 29 (m.2 29) rfl rfl rfl (by omega) (show ((m.2 34) i) < (12 : Int) by omega) rfl ?_
          have e55 : 0 ≤ m.2 29 ((m.2 34) i) ∧ m.2 29 ((m.2 34) i) ≤ 16 := hT.2.1 29 ((m.2 34) i)
          refine T_iadd 51 rfl rfl ?_
          refine T_icmp 88 54 rfl rfl rfl (r32 (by omega) (by omega)) (r32 (by omega) (by omega)) (fun (h56 : (16 * ((m.2 34) i)) + ((m.2 29) ((m.2 34) i)) ≤ v41) => ?_) (fun (h56 : ¬ ((16 * ((m.2 34) i)) + ((m.2 29) ((m.2 34) i)) ≤ v41)) => ?_)
          · skip
            refine T_ld 89 (.int (i32 v40)) rfl (fun _ => rfl) ?_
            refine T_if 102 92 rfl rfl rfl (r32 (by omega) (by omega)) (fun (h57 : (0 : Int) ≤ v40) => ?_) (fun (h57 : ¬ ((0 : Int) ≤ v40)) => ?_)
            · skip
              refine T_gf 106 (.int (i32 (m.1 10))) rfl rfl rfl rfl rfl rfl ?_
              refine T_if 111 109 rfl rfl rfl (r32 (by omega) (by omega)) (fun (h58 : (m.1 10) ≤ 0) => ?_) (fun (h58 : ¬ ((m.1 10) ≤ 0)) => by exfalso; omega)
              refine T_ld 112 (.ref 189) rfl (fun _ => rfl) ?_
              refine T_call 115 212 [.ref 189] [] rfl (fun _ => rfl) rfl (c_next w (mO m [(7, (m.1 7)), (8, (m.1 8)), (9, (m.1 9)), (10, (m.1 10)), (11, (m.1 11)), (12, (m.1 12))] []) c N D (by omega) (Ty_mO hT rfl rfl ⟨f7, f8, f9, f10, f11, f12, trivial⟩ trivial) (show (m.1 10) = 0 → (m.1 8) + (m.1 9) ≤ (m.1 6) by first | omega | (intro h9; have h8 := hLx h9; omega))) (fun rr59 k60 => ?_)
              obtain ⟨y61, y63, y65, y67, y69, y71, g62, g64, g66, g68, g70, g72, h73, h74, h75, h76, rfl⟩ := k60
              refine ⟨_, _, rfl, ?_⟩
              refine T_nf2 (st' := []) (l' := [(7, y61), (8, y63), (9, y65), (10, y67), (11, y69), (12, y71)]) (a' := []) [7, 8, 9, 10, 11, 12] [] rfl ⟨rfl, rfl, rfl, rfl, rfl, rfl, rfl, rfl, rfl, rfl, rfl, rfl, trivial⟩ trivial rfl rfl (by decide) (by decide) ?_
              by_cases hf77 : y67 = 0
              · skip
                subst hf77
                replace h73 : LxP y61 y63 y65 (m.1 6) (0 : Int) := h73
                have hLx := h73
                replace h74 : (m.1 10) = 0 := h74 rfl
                replace h75 : (m.1 8) ≤ y63 := h75
                replace h76 : (m.1 8) + (m.1 9) ≤ y63 := h76 rfl
                have u78 : (m.1 8) + 1 ≤ y63 := by omega
                clear g68
                refine T_ld 117 (.int (i32 16)) rfl (fun _ => rfl) ?_
                refine T_ld 118 (.int (i32 i)) rfl (fun _ => rfl) ?_
                refine T_imul 119 rfl rfl ?_
                refine T_ld 120 (.int (i32 v40)) rfl (fun _ => rfl) ?_
                refine T_iadd 121 rfl rfl ?_
                refine T_ld 123 (.int (i32 16)) rfl (fun _ => rfl) ?_
                refine T_ld 124 (.int (i32 ((m.2 34) i))) rfl (fun _ => rfl) ?_
                refine T_imul 125 rfl rfl ?_
                refine T_isub 126 rfl rfl ?_
                refine T_ret rfl (fun _ => rfl) ?_
                exact ⟨(mO m [(7, y61), (8, y63), (9, y65), (10, 0), (11, y69), (12, y71)] []), ((16 * i) + v40) - (16 * ((m.2 34) i)), (Ty_mO hT rfl rfl ⟨g62, g64, g66, ⟨(by omega : (0 : Int) ≤ 0), (by omega : (0 : Int) ≤ 8)⟩, g70, g72, trivial⟩ trivial), ⟨by omega, by omega⟩, (show (0 : Int) = 0 → (m.1 10) = 0 by omega), (show LxP y61 y63 y65 (m.1 6) (0 : Int) by first | (first | exact hLx | exact (fun _ => hLx (by omega)) | (intro h9; exfalso; omega)) | (exfalso; omega)), (fun _ => ⟨(show (m.1 8) + 1 ≤ y63 by omega), (show (m.1 7) = 1 by omega)⟩), rfl⟩
              · skip
                replace h73 : LxP y61 y63 y65 (m.1 6) y67 := h73
                have hLx := h73
                clear h74
                replace h75 : (m.1 8) ≤ y63 := h75
                clear h76
                have hf79 : 1 ≤ y67 := by omega
                exact J115_11 v40 v41 (mO m [(7, y61), (8, y63), (9, y65), (10, y67), (11, y69), (12, y71)] []) (r32 (by omega) (by omega)) (r32 (by omega) (by omega)) (Ty_mO hT rfl rfl ⟨g62, g64, g66, g68, g70, g72, trivial⟩ trivial) (show 0 ≤ v40 by omega) (show 0 ≤ v41 by omega) (show 1 ≤ y67 by omega) (show y67 ≤ 8 by omega) (show 0 ≤ v40 - 16 * ((m.2 34) i) ∧ v40 - 16 * ((m.2 34) i) ≤ 15 by omega) (show 0 ≤ ((m.2 34) i) ∧ ((m.2 34) i) ≤ 11 by omega)
            · skip
              refine T_ld 93 (.ref 189) rfl (fun _ => rfl) ?_
              refine T_ld 95 (.int (i32 6)) rfl (fun _ => rfl) ?_
              refine T_gf 99 (.int (i32 (m.1 8))) rfl rfl rfl rfl rfl rfl ?_
              refine T_call 102 222 [.ref 189, .int (i32 6), .int (i32 (m.1 8))] [] rfl (fun _ => rfl) rfl (c_wrong w (mO m [(7, (m.1 7)), (8, (m.1 8)), (9, (m.1 9)), (10, (m.1 10)), (11, (m.1 11)), (12, (m.1 12))] []) c N D (by omega) (Ty_mO hT rfl rfl ⟨f7, f8, f9, f10, f11, f12, trivial⟩ trivial) 6 (m.1 8) ⟨by decide, by decide⟩ (r32 (by omega) (by omega)) (show 1 ≤ (6 : Int) ∧ (6 : Int) ≤ 8 by omega) (show 0 ≤ (m.1 8) ∧ (m.1 8) ≤ 4000 by omega)) (fun rr80 k81 => ?_)
              obtain ⟨y82, y84, g83, g85, h86, rfl⟩ := k81
              refine ⟨_, _, rfl, ?_⟩
              refine T_nf2 (st' := []) (l' := [(7, (m.1 7)), (8, (m.1 8)), (9, (m.1 9)), (10, y82), (11, y84), (12, (m.1 12))]) (a' := []) [10, 11] [] rfl ⟨rfl, rfl, rfl, rfl, rfl, rfl, rfl, rfl, rfl, rfl, rfl, rfl, rfl, rfl, rfl, trivial⟩ trivial rfl rfl (by decide) (by decide) ?_
              replace h86 : (0 < (m.1 10) → y82 = (m.1 10) ∧ y84 = (m.1 11)) ∧ ((m.1 10) ≤ 0 → y82 = (6 : Int) ∧ y84 = (m.1 8)) := h86
              have hf87 : 1 ≤ y82 := by omega
              exact J102_25 v40 v41 (mO m [(7, (m.1 7)), (8, (m.1 8)), (9, (m.1 9)), (10, y82), (11, y84), (12, (m.1 12))] []) (r32 (by omega) (by omega)) (r32 (by omega) (by omega)) (Ty_mO hT rfl rfl ⟨f7, f8, f9, g83, g85, f12, trivial⟩ trivial) (show (-1) ≤ v40 by omega) (show v40 ≤ (-1) by omega) (show 0 ≤ v41 by omega) (show 1 ≤ y82 by omega) (show y82 ≤ 8 by omega) (show 0 ≤ ((m.2 34) i) ∧ ((m.2 34) i) ≤ 11 by omega)
          · skip
            have hp3 := hFA v41
            have h7 := hLx (by omega)
            refine T_ld 55 (.ref 189) rfl (fun _ => rfl) ?_
            refine T_gf 59 (.ref 201) rfl rfl rfl rfl rfl rfl ?_
            refine T_ld 61 (.int (i32 v41)) rfl (fun _ => rfl) ?_
            refine T_iald 62 31 (m.2 31) rfl rfl rfl (by omega) (show v41 < (192 : Int) by omega) rfl ?_
            have e88 : 0 ≤ m.2 31 v41 ∧ m.2 31 v41 ≤ 4000 := hT.2.1 31 v41
            refine T_gf 66 (.ref 202) rfl rfl rfl rfl rfl rfl ?_
            refine T_ld 68 (.int (i32 v41)) rfl (fun _ => rfl) ?_
            refine T_iald 69 32 (m.2 32) rfl rfl rfl (by omega) (show v41 < (192 : Int) by omega) rfl ?_
            have e89 : 0 ≤ m.2 32 v41 ∧ m.2 32 v41 ≤ 4000 := hT.2.1 32 v41
            refine T_call 72 230 [.ref 189, .int (i32 ((m.2 31) v41)), .int (i32 ((m.2 32) v41))] [] rfl (fun _ => rfl) rfl (c_isHere w (mO m [(7, (m.1 7)), (8, (m.1 8)), (9, (m.1 9)), (10, (m.1 10)), (11, (m.1 11)), (12, (m.1 12))] []) c N D (by omega) (Ty_mO hT rfl rfl ⟨f7, f8, f9, f10, f11, f12, trivial⟩ trivial) ((m.2 31) v41) ((m.2 32) v41) (r32 (by omega) (by omega)) (r32 (by omega) (by omega)) (show 0 ≤ ((m.2 31) v41) by omega) (show 0 ≤ ((m.2 32) v41) by omega) (show ((m.2 31) v41) + ((m.2 32) v41) ≤ 4000 by omega) (show 1 ≤ (m.1 9) ∧ (m.1 8) + (m.1 9) ≤ (m.1 6) by first | omega | (have h8 := hLx (by omega); omega))) (fun rr90 k91 => ?_)
            obtain ⟨x92, g93, h94, rfl⟩ := k91
            refine ⟨_, _, rfl, ?_⟩
            refine T_nf2 (st' := [.int (i32 x92)]) (l' := [(7, (m.1 7)), (8, (m.1 8)), (9, (m.1 9)), (10, (m.1 10)), (11, (m.1 11)), (12, (m.1 12))]) (a' := []) [] [] rfl ⟨rfl, rfl, rfl, rfl, rfl, rfl, rfl, rfl, rfl, rfl, rfl, rfl, trivial⟩ trivial rfl rfl (by decide) (by decide) ?_
            obtain ⟨g93a, g93b⟩ := g93
            replace h94 : (x92 = 1 ∧ sameN (m.2 4) (m.1 8) (m.1 9) ((m.2 31) v41) ((m.2 32) v41)) ∨ (x92 = 0 ∧ ¬ sameN (m.2 4) (m.1 8) (m.1 9) ((m.2 31) v41) ((m.2 32) v41)) := h94
            have hh := h94
            have u95 : (m.1 8) ≤ (m.1 8) := by omega
            refine T_if 80 75 rfl rfl rfl (r32 (by omega) (by omega)) (fun (h96 : x92 = 0) => ?_) (fun (h96 : ¬ (x92 = 0)) => ?_)
            · skip
              refine T_ld 81 (.int (i32 v40)) rfl (fun _ => rfl) ?_
              refine T_sto 82 [(3, .int (i32 v40)), (0, .ref 189), (1, .int (i32 i)), (2, .int (i32 ((m.2 34) i))), (4, .int (i32 v41))] rfl (fun _ => rfl) ?_
              refine T_iinc 85 [(4, .int (i32 (v41 + 1))), (3, .int (i32 v40)), (0, .ref 189), (1, .int (i32 i)), (2, .int (i32 ((m.2 34) i)))] rfl rfl (by decide) rfl rfl ?_
              refine T_goto 38 rfl (fun _ => rfl) ?_
              refine Tm_lv (a := [(0, .ref 189), (1, .int (i32 i)), (2, .int (i32 ((m.2 34) i))), (3, .int (i32 v40)), (4, .int (i32 (v41 + 1)))]) rfl rfl ⟨rfl, rfl, rfl, rfl, rfl, trivial⟩ ?_
              exact ih54 v40 (v41 + 1) (r32 (by omega) (by omega)) (r32 (by omega) (by omega)) (show (-1) ≤ v40 by omega) (show 0 ≤ (v41 + 1) by omega) (show (v41 + 1) ≤ (16 * ((m.2 34) i)) + ((m.2 29) ((m.2 34) i)) by omega) (show (-1) ≤ v40 by omega) (show v40 < (v41 + 1) by omega) (show 16 * ((m.2 34) i) ≤ (v41 + 1) by omega) (show v40 = -1 ∨ 16 * ((m.2 34) i) ≤ v40 by omega) (show ((16 * ((m.2 34) i)) + ((m.2 29) ((m.2 34) i))) - (v41 + 1) < (n : Int) by omega)
            · skip
              refine T_ld 77 (.int (i32 v41)) rfl (fun _ => rfl) ?_
              refine T_goto 81 rfl (fun _ => rfl) ?_
              refine T_sto 82 [(3, .int (i32 v41)), (0, .ref 189), (1, .int (i32 i)), (2, .int (i32 ((m.2 34) i))), (4, .int (i32 v41))] rfl (fun _ => rfl) ?_
              refine T_iinc 85 [(4, .int (i32 (v41 + 1))), (3, .int (i32 v41)), (0, .ref 189), (1, .int (i32 i)), (2, .int (i32 ((m.2 34) i)))] rfl rfl (by decide) rfl rfl ?_
              refine T_goto 38 rfl (fun _ => rfl) ?_
              refine Tm_lv (a := [(0, .ref 189), (1, .int (i32 i)), (2, .int (i32 ((m.2 34) i))), (3, .int (i32 v41)), (4, .int (i32 (v41 + 1)))]) rfl rfl ⟨rfl, rfl, rfl, rfl, rfl, trivial⟩ ?_
              exact ih54 v41 (v41 + 1) (r32 (by omega) (by omega)) (r32 (by omega) (by omega)) (show (-1) ≤ v41 by omega) (show 0 ≤ (v41 + 1) by omega) (show (v41 + 1) ≤ (16 * ((m.2 34) i)) + ((m.2 29) ((m.2 34) i)) by omega) (show (-1) ≤ v41 by omega) (show v41 < (v41 + 1) by omega) (show 16 * ((m.2 34) i) ≤ (v41 + 1) by omega) (show v41 = -1 ∨ 16 * ((m.2 34) i) ≤ v41 by omega) (show ((16 * ((m.2 34) i)) + ((m.2 29) ((m.2 34) i))) - (v41 + 1) < (n : Int) by omega)
      refine Tm_lv (a := [(0, .ref 189), (1, .int (i32 i)), (2, .int (i32 ((m.2 34) i))), (3, .int (i32 (-1))), (4, .int (i32 (16 * ((m.2 34) i))))]) rfl rfl ⟨rfl, rfl, rfl, rfl, rfl, trivial⟩ ?_
      exact L38_42 ((((16 * ((m.2 34) i)) + ((m.2 29) ((m.2 34) i))) - (16 * ((m.2 34) i)) : Int) + 1).toNat (-1) (16 * ((m.2 34) i)) ⟨by decide, by decide⟩ (r32 (by omega) (by omega)) (show (-1) ≤ (-1 : Int) by omega) (show 0 ≤ (16 * ((m.2 34) i)) by omega) (show (16 * ((m.2 34) i)) ≤ (16 * ((m.2 34) i)) + ((m.2 29) ((m.2 34) i)) by omega) (show (-1) ≤ (-1 : Int) by omega) (show (-1 : Int) < (16 * ((m.2 34) i)) by omega) (show 16 * ((m.2 34) i) ≤ (16 * ((m.2 34) i)) by omega) (show (-1 : Int) = -1 ∨ 16 * ((m.2 34) i) ≤ (-1 : Int) by omega) (show ((16 * ((m.2 34) i)) + ((m.2 29) ((m.2 34) i))) - (16 * ((m.2 34) i)) < ((((((16 * ((m.2 34) i)) + ((m.2 29) ((m.2 34) i))) - (16 * ((m.2 34) i)) : Int) + 1).toNat : Nat) : Int) by omega)
    · skip
      refine T_ld 27 (.ref 189) rfl (fun _ => rfl) ?_
      refine T_call 30 226 [.ref 189] [] rfl (fun _ => rfl) rfl (c_bad w (mO m [(7, (m.1 7)), (8, (m.1 8)), (9, (m.1 9)), (10, (m.1 10)), (11, (m.1 11)), (12, (m.1 12))] []) c N D (by omega) (Ty_mO hT rfl rfl ⟨f7, f8, f9, f10, f11, f12, trivial⟩ trivial) ) (fun rr97 k98 => ?_)
      obtain ⟨y99, y101, g100, g102, h103, rfl⟩ := k98
      refine ⟨_, _, rfl, ?_⟩
      refine T_nf2 (st' := []) (l' := [(7, (m.1 7)), (8, (m.1 8)), (9, (m.1 9)), (10, y99), (11, y101), (12, (m.1 12))]) (a' := []) [10, 11] [] rfl ⟨rfl, rfl, rfl, rfl, rfl, rfl, rfl, rfl, rfl, rfl, rfl, rfl, rfl, rfl, rfl, trivial⟩ trivial rfl rfl (by decide) (by decide) ?_
      replace h103 : (0 < (m.1 10) → y99 = (m.1 10) ∧ y101 = (m.1 11)) ∧ ((m.1 10) ≤ 0 → y99 = 1 ∧ y101 = (m.1 8)) := h103
      have hf104 : 1 ≤ y99 := by omega
      refine T_ld 31 (.int (i32 0)) rfl (fun _ => rfl) ?_
      refine T_ret rfl (fun _ => rfl) ?_
      exact ⟨(mO m [(7, (m.1 7)), (8, (m.1 8)), (9, (m.1 9)), (10, y99), (11, y101), (12, (m.1 12))] []), 0, (Ty_mO hT rfl rfl ⟨f7, f8, f9, g100, g102, f12, trivial⟩ trivial), ⟨by omega, by omega⟩, (show y99 = 0 → (m.1 10) = 0 by omega), (show LxP (m.1 7) (m.1 8) (m.1 9) (m.1 6) y99 by first | (first | exact hLx | exact (fun _ => hLx (by omega)) | (intro h9; exfalso; omega)) | (exfalso; omega)), (fun (h : y99 = 0) => absurd h (by omega)), rfl⟩
  · skip
    clear hC
    refine T_gf 4 (.int (i32 (m.1 10))) rfl rfl rfl rfl rfl rfl ?_
    refine T_if 9 7 rfl rfl rfl (r32 (by omega) (by omega)) (fun (h105 : (m.1 10) ≤ 0) => by exfalso; omega) (fun (h105 : ¬ ((m.1 10) ≤ 0)) => ?_)
    refine T_ld 8 (.int (i32 0)) rfl (fun _ => rfl) ?_
    refine T_ret rfl (fun _ => rfl) ?_
    exact ⟨(mO m [(7, (m.1 7)), (8, (m.1 8)), (9, (m.1 9)), (10, (m.1 10)), (11, (m.1 11)), (12, (m.1 12))] []), 0, (Ty_mO hT rfl rfl ⟨f7, f8, f9, f10, f11, f12, trivial⟩ trivial), ⟨by omega, by omega⟩, (show (m.1 10) = 0 → (m.1 10) = 0 by omega), (show LxP (m.1 7) (m.1 8) (m.1 9) (m.1 6) (m.1 10) by first | (first | exact hLx | exact (fun _ => hLx (by omega)) | (intro h9; exfalso; omega)) | (exfalso; omega)), (fun (h : (m.1 10) = 0) => absurd h (by omega)), rfl⟩
def Q_atom (m : mR) (c : Nat → Option am_C) (N : Nat) (b : Int) (p : Int) : ag_Re af_T → Prop := fun R => ∃ (M : mR), Ty M ∧ ((m.1 10) = 0 → (M.1 75) = 1 ∧ (M.1 69) = b) ∧ R = (.inl (none), (mhp (mO m [(69, (M.1 69)), (70, (M.1 70)), (71, (M.1 71)), (72, (M.1 72)), (75, (M.1 75))] []) c, N), 0, 0)
set_option maxHeartbeats 8000000 in
theorem c_atom (w : wX) (m : mR) (c : Nat → Option am_C) (N D : Nat) (hD : 2 ≤ D) (hT : Ty m) (b : Int) (p : Int) (qb : R32 b) (qp : R32 p) (p0 : 0 ≤ b ∧ b ≤ 64) (p1 : 0 ≤ p ∧ p ≤ 4000) : TC w D 249 [.ref 189, .int (i32 b), .int (i32 p)] (mhp m c, N) (Q_atom m c N b p) := by
  obtain ⟨D, rfl⟩ : ∃ k, D = k + 1 := ⟨D - 1, by omega⟩
  obtain ⟨qba, qbb⟩ := id qb
  obtain ⟨qpa, qpb⟩ := id qp
  have f69 : 0 ≤ m.1 69 ∧ m.1 69 ≤ 1024 := hT.1 69
  have f70 : 0 ≤ m.1 70 ∧ m.1 70 ≤ 4000 := hT.1 70
  have f71 : 0 ≤ m.1 71 ∧ m.1 71 ≤ 1 := hT.1 71
  have f72 : (-9223372036854775808) ≤ m.1 72 ∧ m.1 72 ≤ 9223372036854775807 := hT.1 72
  have f75 : 0 ≤ m.1 75 ∧ m.1 75 ≤ 3 := hT.1 75
  have f10 : 0 ≤ m.1 10 ∧ m.1 10 ≤ 8 := hT.1 10
  refine Tc_of rfl ?_
  show TT w D pm_249 (0, [(0, .ref 189), (1, .int (i32 b)), (2, .int (i32 p))], [], (mhp m c, N), 0, 0) (Q_atom m c N b p)
  rw [show (mhp m c, N) = (mhp (mO m [(69, (m.1 69)), (70, (m.1 70)), (71, (m.1 71)), (72, (m.1 72)), (75, (m.1 75))] []) c, N) from congrArg (fun M => (mhp M c, N)) (mO_pad m [69, 70, 71, 72, 75] [])]
  refine T_gf 4 (.int (i32 (m.1 10))) rfl rfl rfl rfl rfl rfl ?_
  refine T_if 8 7 rfl rfl rfl (r32 (by omega) (by omega)) (fun (h1 : (m.1 10) ≤ 0) => ?_) (fun (h1 : ¬ ((m.1 10) ≤ 0)) => ?_)
  · skip
    refine T_ld 9 (.ref 189) rfl (fun _ => rfl) ?_
    refine T_ld 10 (.int (i32 b)) rfl (fun _ => rfl) ?_
    refine T_ld 11 (.int (i32 p)) rfl (fun _ => rfl) ?_
    refine T_call 14 250 [.ref 189, .int (i32 b), .int (i32 p)] [] rfl (fun _ => rfl) rfl (c_unit w (mO m [(69, (m.1 69)), (70, (m.1 70)), (71, (m.1 71)), (72, (m.1 72)), (75, (m.1 75))] []) c N D (by omega) (Ty_mO hT rfl rfl ⟨f69, f70, f71, f72, f75, trivial⟩ trivial) b p (r32 (by omega) (by omega)) (r32 (by omega) (by omega)) (show 0 ≤ b ∧ b ≤ 1024 by omega) (show 0 ≤ p ∧ p ≤ 4000 by omega)) (fun rr2 k3 => ?_)
    obtain ⟨m4, hT5, h6, rfl⟩ := k3
    refine ⟨_, _, rfl, ?_⟩
    refine T_nf2 (st' := []) (l' := [(69, (m4.1 69)), (70, (m4.1 70)), (71, (m4.1 71)), (72, (m4.1 72)), (75, (m.1 75))]) (a' := []) [69, 70, 71, 72] [] rfl ⟨rfl, rfl, rfl, rfl, rfl, rfl, rfl, rfl, rfl, rfl, trivial⟩ trivial rfl rfl (by decide) (by decide) ?_
    have g7 : 0 ≤ m4.1 69 ∧ m4.1 69 ≤ 1024 := hT5.1 69
    have g8 : 0 ≤ m4.1 70 ∧ m4.1 70 ≤ 4000 := hT5.1 70
    have g9 : 0 ≤ m4.1 71 ∧ m4.1 71 ≤ 1 := hT5.1 71
    have g10 : (-9223372036854775808) ≤ m4.1 72 ∧ m4.1 72 ≤ 9223372036854775807 := hT5.1 72
    replace h6 : (m4.1 69) = b := h6
    refine T_ld 15 (.ref 189) rfl (fun _ => rfl) ?_
    refine T_ld 16 (.int (i32 1)) rfl (fun _ => rfl) ?_
    refine T_pf (l' := [(69, (m4.1 69)), (70, (m4.1 70)), (71, (m4.1 71)), (72, (m4.1 72)), (75, 1)]) 19 1 rfl rfl rfl rfl rfl rfl ?_
    refine T_ret rfl (fun _ => rfl) ?_
    exact ⟨(mO m [(69, (m4.1 69)), (70, (m4.1 70)), (71, (m4.1 71)), (72, (m4.1 72)), (75, 1)] []), (Ty_mO hT rfl rfl ⟨(hT5.1 69), (hT5.1 70), (hT5.1 71), (hT5.1 72), ⟨(by omega : (0 : Int) ≤ 1), (by omega : (1 : Int) ≤ 3)⟩, trivial⟩ trivial), (show (m.1 10) = 0 → (1 : Int) = 1 ∧ (m4.1 69) = b by omega), rfl⟩
  · skip
    refine T_ret rfl (fun _ => rfl) ?_
    exact ⟨(mO m [(69, (m.1 69)), (70, (m.1 70)), (71, (m.1 71)), (72, (m.1 72)), (75, (m.1 75))] []), (Ty_mO hT rfl rfl ⟨f69, f70, f71, f72, f75, trivial⟩ trivial), (show (m.1 10) = 0 → (m.1 75) = 1 ∧ (m.1 69) = b by omega), rfl⟩
