def Q_node (m : mR) (c : Nat → Option am_C) (N : Nat) (a : Int) (b : Int) (n : Int) (v : Int) (B : Int) (h : Int) : ag_Re af_T → Prop := fun R => ∃ (y10 : Int) (y11 : Int) (y28 : Int) (F65 : Int → Int) (F66 : Int → Int) (F67 : Int → Int) (F68 : Int → Int), (0 ≤ y10 ∧ y10 ≤ 8) ∧ ((-1) ≤ y11 ∧ y11 ≤ 4000) ∧ (0 ≤ y28 ∧ y28 ≤ 800) ∧ (∀ j, 0 ≤ F65 j ∧ F65 j ≤ 408) ∧ (∀ j, 0 ≤ F66 j ∧ F66 j ≤ 64) ∧ (∀ j, 0 ≤ F67 j ∧ F67 j ≤ 191) ∧ (∀ j, (-9223372036854775808) ≤ F68 j ∧ F68 j ≤ 9223372036854775807) ∧ (y10 = 0 → (m.1 10) = 0) ∧ (y10 = 0 → (y28 = (m.1 28) + 1) ∧ (EX F65 F67 B y28 (h + 1 - ar a)) ∧ (agr (m.2 65) F65 (m.1 28))) ∧ R = (.inl (none), (mhp (mO m [(10, y10), (11, y11), (28, y28)] [(65, F65), (66, F66), (67, F67), (68, F68)]) c, N), 0, 0)
set_option maxHeartbeats 8000000 in
theorem c_node (w : wX) (m : mR) (c : Nat → Option am_C) (N D : Nat) (hD : 2 ≤ D) (hT : Ty m) (a : Int) (b : Int) (n : Int) (v : Int) (B : Int) (h : Int) (qa : R32 a) (qb : R32 b) (qn : R32 n) (qv : R64 v) (hC : m.1 10 = 0 → (0 ≤ a ∧ a ≤ 408) ∧ (0 ≤ b ∧ b ≤ 64) ∧ (0 ≤ n ∧ n ≤ 191) ∧ (CNk a n) ∧ (ar a ≤ h) ∧ (EX (m.2 65) (m.2 67) B (m.1 28) h)) : TC w D 248 [.ref 189, .int (i32 a), .int (i32 b), .int (i32 n), .long (i64 v)] (mhp m c, N) (Q_node m c N a b n v B h) := by
  obtain ⟨D, rfl⟩ : ∃ k, D = k + 1 := ⟨D - 1, by omega⟩
  obtain ⟨qaa, qab⟩ := id qa
  obtain ⟨qba, qbb⟩ := id qb
  obtain ⟨qna, qnb⟩ := id qn
  obtain ⟨qva, qvb⟩ := id qv
  have f10 : 0 ≤ m.1 10 ∧ m.1 10 ≤ 8 := hT.1 10
  have f11 : (-1) ≤ m.1 11 ∧ m.1 11 ≤ 4000 := hT.1 11
  have f28 : 0 ≤ m.1 28 ∧ m.1 28 ≤ 800 := hT.1 28
  refine Tc_of rfl ?_
  show TT w D pm_248 (0, [(0, .ref 189), (1, .int (i32 a)), (2, .int (i32 b)), (3, .int (i32 n)), (4, .long (i64 v))], [], (mhp m c, N), 0, 0) (Q_node m c N a b n v B h)
  rw [show (mhp m c, N) = (mhp (mO m [(10, (m.1 10)), (11, (m.1 11)), (28, (m.1 28))] [(65, (m.2 65)), (66, (m.2 66)), (67, (m.2 67)), (68, (m.2 68))]) c, N) from congrArg (fun M => (mhp M c, N)) (mO_pad m [10, 11, 28] [65, 66, 67, 68])]
  by_cases hf0 : m.1 10 = 0
  · skip
    obtain ⟨c1, c2, c3, hCk, hAr, hEX⟩ := hC hf0
    refine T_gf 4 (.int (i32 (m.1 10))) rfl rfl rfl rfl rfl rfl ?_
    refine T_if 26 7 rfl rfl rfl (r32 (by omega) (by omega)) (fun (h6 : (m.1 10) ≠ 0) => by exfalso; omega) (fun (h6 : ¬ ((m.1 10) ≠ 0)) => ?_)
    refine T_gf 11 (.int (i32 (m.1 28))) rfl rfl rfl rfl rfl rfl ?_
    refine T_ld 14 (.int (i32 800)) rfl (fun _ => rfl) ?_
    refine T_icmp 26 17 rfl rfl rfl (r32 (by omega) (by omega)) ⟨by decide, by decide⟩ (fun (h7 : (m.1 28) ≠ 800) => ?_) (fun (h7 : ¬ ((m.1 28) ≠ 800)) => ?_)
    · skip
      refine T_gf 30 (.int (i32 (m.1 10))) rfl rfl rfl rfl rfl rfl ?_
      refine T_if 34 33 rfl rfl rfl (r32 (by omega) (by omega)) (fun (h8 : (m.1 10) ≤ 0) => ?_) (fun (h8 : ¬ ((m.1 10) ≤ 0)) => by exfalso; omega)
      refine T_gf 38 (.ref 234) rfl rfl rfl rfl rfl rfl ?_
      refine T_gf 42 (.int (i32 (m.1 28))) rfl rfl rfl rfl rfl rfl ?_
      refine T_ld 43 (.int (i32 a)) rfl (fun _ => rfl) ?_
      have G9 : ∀ j, 0 ≤ (upI (m.2 65) (m.1 28) a) j ∧ (upI (m.2 65) (m.1 28) a) j ≤ 408 := upI_rg (hT.2.1 65) ⟨by omega, by omega⟩
      refine T_iast (a' := [(65, upI (m.2 65) (m.1 28) a), (66, (m.2 66)), (67, (m.2 67)), (68, (m.2 68))]) 44 65 (m.2 65) rfl rfl rfl (by omega) (show (m.1 28) < (800 : Int) by omega) rfl rfl ?_
      refine T_gf 48 (.ref 235) rfl rfl rfl rfl rfl rfl ?_
      refine T_gf 52 (.int (i32 (m.1 28))) rfl rfl rfl rfl rfl rfl ?_
      refine T_ld 53 (.int (i32 b)) rfl (fun _ => rfl) ?_
      have G10 : ∀ j, 0 ≤ (upI (m.2 66) (m.1 28) b) j ∧ (upI (m.2 66) (m.1 28) b) j ≤ 64 := upI_rg (hT.2.1 66) ⟨by omega, by omega⟩
      refine T_iast (a' := [(65, upI (m.2 65) (m.1 28) a), (66, upI (m.2 66) (m.1 28) b), (67, (m.2 67)), (68, (m.2 68))]) 54 66 (m.2 66) rfl rfl rfl (by omega) (show (m.1 28) < (800 : Int) by omega) rfl rfl ?_
      refine T_gf 58 (.ref 236) rfl rfl rfl rfl rfl rfl ?_
      refine T_gf 62 (.int (i32 (m.1 28))) rfl rfl rfl rfl rfl rfl ?_
      refine T_ld 63 (.int (i32 n)) rfl (fun _ => rfl) ?_
      have G11 : ∀ j, 0 ≤ (upI (m.2 67) (m.1 28) n) j ∧ (upI (m.2 67) (m.1 28) n) j ≤ 191 := upI_rg (hT.2.1 67) ⟨by omega, by omega⟩
      refine T_iast (a' := [(65, upI (m.2 65) (m.1 28) a), (66, upI (m.2 66) (m.1 28) b), (67, upI (m.2 67) (m.1 28) n), (68, (m.2 68))]) 64 67 (m.2 67) rfl rfl rfl (by omega) (show (m.1 28) < (800 : Int) by omega) rfl rfl ?_
      refine T_gf 68 (.ref 237) rfl rfl rfl rfl rfl rfl ?_
      refine T_gf 72 (.int (i32 (m.1 28))) rfl rfl rfl rfl rfl rfl ?_
      refine T_ld 74 (.long (i64 v)) rfl (fun _ => rfl) ?_
      have G12 : ∀ j, (-9223372036854775808) ≤ (upI (m.2 68) (m.1 28) v) j ∧ (upI (m.2 68) (m.1 28) v) j ≤ 9223372036854775807 := upI_rg (hT.2.1 68) ⟨by omega, by omega⟩
      refine T_last (a' := [(65, upI (m.2 65) (m.1 28) a), (66, upI (m.2 66) (m.1 28) b), (67, upI (m.2 67) (m.1 28) n), (68, upI (m.2 68) (m.1 28) v)]) 75 68 (m.2 68) rfl rfl rfl (by omega) (show (m.1 28) < (800 : Int) by omega) rfl rfl ?_
      refine T_ld 76 (.ref 189) rfl (fun _ => rfl) ?_
      refine T_ld 77 (.ref 189) rfl (fun _ => rfl) ?_
      refine T_gf1 80 (.int (i32 (m.1 28))) rfl rfl rfl rfl ?_
      refine T_ld 81 (.int (i32 1)) rfl (fun _ => rfl) ?_
      refine T_iadd 82 rfl rfl ?_
      refine T_pf (l' := [(10, (m.1 10)), (11, (m.1 11)), (28, (m.1 28) + 1)]) 85 ((m.1 28) + 1) rfl rfl rfl rfl rfl rfl ?_
      have g13 : 0 ≤ (m.1 28) + 1 ∧ (m.1 28) + 1 ≤ 800 := ⟨by omega, by omega⟩
      refine T_ret rfl (fun _ => rfl) ?_
      exact ⟨(m.1 10), (m.1 11), (m.1 28) + 1, upI (m.2 65) (m.1 28) a, upI (m.2 66) (m.1 28) b, upI (m.2 67) (m.1 28) n, upI (m.2 68) (m.1 28) v, f10, f11, g13, G9, G10, G11, G12, (by omega), (fun _ => ⟨(by omega), (by first | (exact EX_put hEX hAr hCk) | (exfalso; omega)), (by first | (exact agr_u (Int.le_refl _)) | (exfalso; omega))⟩), rfl⟩
    · skip
      refine T_ld 18 (.ref 189) rfl (fun _ => rfl) ?_
      refine T_ld 19 (.int (i32 4)) rfl (fun _ => rfl) ?_
      have f8 : 0 ≤ m.1 8 ∧ m.1 8 ≤ 4000 := hT.1 8
      refine T_gf 23 (.int (i32 (m.1 8))) rfl rfl rfl rfl rfl rfl ?_
      refine T_call 26 222 [.ref 189, .int (i32 4), .int (i32 (m.1 8))] [] rfl (fun _ => rfl) rfl (c_wrong w (mO m [(10, (m.1 10)), (11, (m.1 11)), (28, (m.1 28))] [(65, (m.2 65)), (66, (m.2 66)), (67, (m.2 67)), (68, (m.2 68))]) c N D (by omega) (Ty_mO hT rfl rfl ⟨f10, f11, f28, trivial⟩ ⟨(hT.2.1 65), (hT.2.1 66), (hT.2.1 67), (hT.2.1 68), trivial⟩) 4 (m.1 8) ⟨by decide, by decide⟩ (r32 (by omega) (by omega)) (show 1 ≤ (4 : Int) ∧ (4 : Int) ≤ 8 by omega) (show 0 ≤ (m.1 8) ∧ (m.1 8) ≤ 4000 by omega)) (fun rr14 k15 => ?_)
      obtain ⟨y16, y18, g17, g19, h20, rfl⟩ := k15
      refine ⟨_, _, rfl, ?_⟩
      refine T_nf (st' := []) (l' := [(10, y16), (11, y18), (28, (m.1 28))]) (a' := [(65, (m.2 65)), (66, (m.2 66)), (67, (m.2 67)), (68, (m.2 68))]) rfl rfl rfl rfl rfl ?_
      replace h20 : (0 < (m.1 10) → y16 = (m.1 10) ∧ y18 = (m.1 11)) ∧ ((m.1 10) ≤ 0 → y16 = (4 : Int) ∧ y18 = (m.1 8)) := h20
      have hf21 : 1 ≤ y16 := by omega
      refine T_gf 30 (.int (i32 y16)) rfl rfl rfl rfl rfl rfl ?_
      refine T_if 34 33 rfl rfl rfl (r32 (by omega) (by omega)) (fun (h22 : y16 ≤ 0) => by exfalso; omega) (fun (h22 : ¬ (y16 ≤ 0)) => ?_)
      refine T_ret rfl (fun _ => rfl) ?_
      exact ⟨y16, y18, (m.1 28), (m.2 65), (m.2 66), (m.2 67), (m.2 68), g17, g19, f28, (hT.2.1 65), (hT.2.1 66), (hT.2.1 67), (hT.2.1 68), (by omega), (fun h => absurd h (by omega)), rfl⟩
  · skip
    clear hC
    refine T_gf 4 (.int (i32 (m.1 10))) rfl rfl rfl rfl rfl rfl ?_
    refine T_if 26 7 rfl rfl rfl (r32 (by omega) (by omega)) (fun (h23 : (m.1 10) ≠ 0) => ?_) (fun (h23 : ¬ ((m.1 10) ≠ 0)) => by exfalso; omega)
    refine T_gf 30 (.int (i32 (m.1 10))) rfl rfl rfl rfl rfl rfl ?_
    refine T_if 34 33 rfl rfl rfl (r32 (by omega) (by omega)) (fun (h24 : (m.1 10) ≤ 0) => by exfalso; omega) (fun (h24 : ¬ ((m.1 10) ≤ 0)) => ?_)
    refine T_ret rfl (fun _ => rfl) ?_
    exact ⟨(m.1 10), (m.1 11), (m.1 28), (m.2 65), (m.2 66), (m.2 67), (m.2 68), f10, f11, f28, (hT.2.1 65), (hT.2.1 66), (hT.2.1 67), (hT.2.1 68), (by omega), (fun h => absurd h (by omega)), rfl⟩
def Q_fits (m : mR) (c : Nat → Option am_C) (N : Nat) (v : Int) (b : Int) : ag_Re af_T → Prop := fun R => ∃ (r : Int), (0 ≤ r ∧ r ≤ 1) ∧ R = (.inl (some (.int (i32 r))), (mhp (mO m [] []) c, N), 0, 0)
set_option maxHeartbeats 8000000 in
theorem c_fits (w : wX) (m : mR) (c : Nat → Option am_C) (N D : Nat) (hD : 1 ≤ D) (hT : Ty m) (v : Int) (b : Int) (qv : R64 v) (qb : R32 b) : TC w D 262 [.long (i64 v), .int (i32 b)] (mhp m c, N) (Q_fits m c N v b) := by
  obtain ⟨D, rfl⟩ : ∃ k, D = k + 1 := ⟨D - 1, by omega⟩
  obtain ⟨qva, qvb⟩ := id qv
  obtain ⟨qba, qbb⟩ := id qb
  refine Tc_of rfl ?_
  show TT w D pm_262 (0, [(0, .long (i64 v)), (2, .int (i32 b))], [], (mhp m c, N), 0, 0) (Q_fits m c N v b)
  rw [show (mhp m c, N) = (mhp (mO m [] []) c, N) from rfl]
  refine T_ld 1 (.int (i32 b)) rfl (fun _ => rfl) ?_
  refine T_ld 3 (.int (i32 64)) rfl (fun _ => rfl) ?_
  refine T_icmp 14 6 rfl rfl rfl (r32 (by omega) (by omega)) ⟨by decide, by decide⟩ (fun (h1 : b = 64) => ?_) (fun (h1 : ¬ (b = 64)) => ?_)
  · skip
    refine T_ld 15 (.int (i32 1)) rfl (fun _ => rfl) ?_
    refine T_goto 19 rfl (fun _ => rfl) ?_
    refine T_ret rfl (fun _ => rfl) ?_
    exact ⟨1, ⟨by omega, by omega⟩, rfl⟩
  · skip
    refine T_ld 7 (.long (i64 v)) rfl (fun _ => rfl) ?_
    refine T_ld 8 (.int (i32 b)) rfl (fun _ => rfl) ?_
    refine T_lhv 9 _ rfl (fun _ => rfl) (fun z2 h3 => ?_)
    obtain ⟨h3a, h3b⟩ := h3
    refine T_ld 10 (.long (i64 0)) rfl (fun _ => rfl) ?_
    refine T_lcmp 11 rfl rfl (r64 (by omega) (by omega)) ⟨by decide, by decide⟩ (fun z4 h5 => ?_)
    obtain ⟨h5a, h5b, h5c, h5d, h5e⟩ := h5
    refine T_if 18 14 rfl rfl rfl (r32 (by omega) (by omega)) (fun (h6 : z4 ≠ 0) => ?_) (fun (h6 : ¬ (z4 ≠ 0)) => ?_)
    · skip
      have hl7 : z2 ≠ 0 := by omega
      refine T_ld 19 (.int (i32 0)) rfl (fun _ => rfl) ?_
      refine T_ret rfl (fun _ => rfl) ?_
      exact ⟨0, ⟨by omega, by omega⟩, rfl⟩
    · skip
      have hl8 : z2 = 0 := by omega
      refine T_ld 15 (.int (i32 1)) rfl (fun _ => rfl) ?_
      refine T_goto 19 rfl (fun _ => rfl) ?_
      refine T_ret rfl (fun _ => rfl) ?_
      exact ⟨1, ⟨by omega, by omega⟩, rfl⟩
def Q_want (m : mR) (c : Nat → Option am_C) (N : Nat) (g : Int) (p : Int) : ag_Re af_T → Prop := fun R => ∃ (y10 : Int) (y11 : Int), (0 ≤ y10 ∧ y10 ≤ 8) ∧ ((-1) ≤ y11 ∧ y11 ≤ 4000) ∧ (y10 = 0 → (m.1 10) = 0) ∧ (y10 = 0 → (g ≠ 0)) ∧ R = (.inl (none), (mhp (mO m [(10, y10), (11, y11)] []) c, N), 0, 0)
set_option maxHeartbeats 8000000 in
theorem c_want (w : wX) (m : mR) (c : Nat → Option am_C) (N D : Nat) (hD : 2 ≤ D) (hT : Ty m) (g : Int) (p : Int) (qg : R32 g) (qp : R32 p) (p0 : 0 ≤ p ∧ p ≤ 4000) (hC : m.1 10 = 0 → True) : TC w D 256 [.ref 189, .int (i32 g), .int (i32 p)] (mhp m c, N) (Q_want m c N g p) := by
  obtain ⟨D, rfl⟩ : ∃ k, D = k + 1 := ⟨D - 1, by omega⟩
  obtain ⟨qga, qgb⟩ := id qg
  obtain ⟨qpa, qpb⟩ := id qp
  have f10 : 0 ≤ m.1 10 ∧ m.1 10 ≤ 8 := hT.1 10
  have f11 : (-1) ≤ m.1 11 ∧ m.1 11 ≤ 4000 := hT.1 11
  refine Tc_of rfl ?_
  show TT w D pm_256 (0, [(0, .ref 189), (1, .int (i32 g)), (2, .int (i32 p))], [], (mhp m c, N), 0, 0) (Q_want m c N g p)
  rw [show (mhp m c, N) = (mhp (mO m [(10, (m.1 10)), (11, (m.1 11))] []) c, N) from congrArg (fun M => (mhp M c, N)) (mO_pad m [10, 11] [])]
  by_cases hf0 : m.1 10 = 0
  · skip
    refine T_ld 1 (.int (i32 g)) rfl (fun _ => rfl) ?_
    refine T_if 11 4 rfl rfl rfl (r32 (by omega) (by omega)) (fun (h3 : g ≠ 0) => ?_) (fun (h3 : ¬ (g ≠ 0)) => ?_)
    · skip
      refine T_ret rfl (fun _ => rfl) ?_
      exact ⟨(m.1 10), (m.1 11), f10, f11, (by omega), (fun _ => (by omega)), rfl⟩
    · skip
      refine T_ld 5 (.ref 189) rfl (fun _ => rfl) ?_
      refine T_ld 7 (.int (i32 7)) rfl (fun _ => rfl) ?_
      refine T_ld 8 (.int (i32 p)) rfl (fun _ => rfl) ?_
      refine T_call 11 222 [.ref 189, .int (i32 7), .int (i32 p)] [] rfl (fun _ => rfl) rfl (c_wrong w (mO m [(10, (m.1 10)), (11, (m.1 11))] []) c N D (by omega) (Ty_mO hT rfl rfl ⟨f10, f11, trivial⟩ trivial) 7 p ⟨by decide, by decide⟩ (r32 (by omega) (by omega)) (show 1 ≤ (7 : Int) ∧ (7 : Int) ≤ 8 by omega) (show 0 ≤ p ∧ p ≤ 4000 by omega)) (fun rr4 k5 => ?_)
      obtain ⟨y6, y8, g7, g9, h10, rfl⟩ := k5
      refine ⟨_, _, rfl, ?_⟩
      refine T_nf (st' := []) (l' := [(10, y6), (11, y8)]) (a' := []) rfl rfl rfl rfl rfl ?_
      replace h10 : (0 < (m.1 10) → y6 = (m.1 10) ∧ y8 = (m.1 11)) ∧ ((m.1 10) ≤ 0 → y6 = (7 : Int) ∧ y8 = p) := h10
      have hf11 : 1 ≤ y6 := by omega
      refine T_ret rfl (fun _ => rfl) ?_
      exact ⟨y6, y8, g7, g9, (by omega), (fun h => absurd h (by omega)), rfl⟩
  · skip
    clear hC
    refine T_ld 1 (.int (i32 g)) rfl (fun _ => rfl) ?_
    refine T_if 11 4 rfl rfl rfl (r32 (by omega) (by omega)) (fun (h12 : g ≠ 0) => ?_) (fun (h12 : ¬ (g ≠ 0)) => ?_)
    · skip
      refine T_ret rfl (fun _ => rfl) ?_
      exact ⟨(m.1 10), (m.1 11), f10, f11, (by omega), (fun h => absurd h (by omega)), rfl⟩
    · skip
      refine T_ld 5 (.ref 189) rfl (fun _ => rfl) ?_
      refine T_ld 7 (.int (i32 7)) rfl (fun _ => rfl) ?_
      refine T_ld 8 (.int (i32 p)) rfl (fun _ => rfl) ?_
      refine T_call 11 222 [.ref 189, .int (i32 7), .int (i32 p)] [] rfl (fun _ => rfl) rfl (c_wrong w (mO m [(10, (m.1 10)), (11, (m.1 11))] []) c N D (by omega) (Ty_mO hT rfl rfl ⟨f10, f11, trivial⟩ trivial) 7 p ⟨by decide, by decide⟩ (r32 (by omega) (by omega)) (show 1 ≤ (7 : Int) ∧ (7 : Int) ≤ 8 by omega) (show 0 ≤ p ∧ p ≤ 4000 by omega)) (fun rr13 k14 => ?_)
      obtain ⟨y15, y17, g16, g18, h19, rfl⟩ := k14
      refine ⟨_, _, rfl, ?_⟩
      refine T_nf (st' := []) (l' := [(10, y15), (11, y17)]) (a' := []) rfl rfl rfl rfl rfl ?_
      replace h19 : (0 < (m.1 10) → y15 = (m.1 10) ∧ y17 = (m.1 11)) ∧ ((m.1 10) ≤ 0 → y15 = (7 : Int) ∧ y17 = p) := h19
      have hf20 : 1 ≤ y15 := by omega
      refine T_ret rfl (fun _ => rfl) ?_
      exact ⟨y15, y17, g16, g18, (by omega), (fun h => absurd h (by omega)), rfl⟩
def Q_wantBit (m : mR) (c : Nat → Option am_C) (N : Nat) (b : Int) (g : Int) (v : Int) (p : Int) : ag_Re af_T → Prop := fun R => ∃ (y10 : Int) (y11 : Int), (0 ≤ y10 ∧ y10 ≤ 8) ∧ ((-1) ≤ y11 ∧ y11 ≤ 4000) ∧ (y10 = 0 → (m.1 10) = 0) ∧ (y10 = 0 → True) ∧ R = (.inl (none), (mhp (mO m [(10, y10), (11, y11)] []) c, N), 0, 0)
set_option maxHeartbeats 8000000 in
theorem c_wantBit (w : wX) (m : mR) (c : Nat → Option am_C) (N D : Nat) (hD : 3 ≤ D) (hT : Ty m) (b : Int) (g : Int) (v : Int) (p : Int) (qb : R32 b) (qg : R32 g) (qv : R64 v) (qp : R32 p) (p0 : 0 ≤ p ∧ p ≤ 4000) (hC : m.1 10 = 0 → True) : TC w D 258 [.ref 189, .int (i32 b), .int (i32 g), .long (i64 v), .int (i32 p)] (mhp m c, N) (Q_wantBit m c N b g v p) := by
  obtain ⟨D, rfl⟩ : ∃ k, D = k + 1 := ⟨D - 1, by omega⟩
  obtain ⟨qba, qbb⟩ := id qb
  obtain ⟨qga, qgb⟩ := id qg
  obtain ⟨qva, qvb⟩ := id qv
  obtain ⟨qpa, qpb⟩ := id qp
  have f10 : 0 ≤ m.1 10 ∧ m.1 10 ≤ 8 := hT.1 10
  have f11 : (-1) ≤ m.1 11 ∧ m.1 11 ≤ 4000 := hT.1 11
  refine Tc_of rfl ?_
  show TT w D pm_258 (0, [(0, .ref 189), (1, .int (i32 b)), (2, .int (i32 g)), (3, .long (i64 v)), (5, .int (i32 p))], [], (mhp m c, N), 0, 0) (Q_wantBit m c N b g v p)
  rw [show (mhp m c, N) = (mhp (mO m [(10, (m.1 10)), (11, (m.1 11))] []) c, N) from congrArg (fun M => (mhp M c, N)) (mO_pad m [10, 11] [])]
  by_cases hf0 : m.1 10 = 0
  · skip
    have J36_5 : ∀ (y3 : Int) (y4 : Int), (0 ≤ y3 ∧ y3 ≤ 8) → ((-1) ≤ y4 ∧ y4 ≤ 4000) → (1 ≤ y3) → (y3 ≤ 8) → TT w D pm_258 (36, [(0, .ref 189), (1, .int (i32 b)), (2, .int (i32 g)), (3, .long (i64 v)), (5, .int (i32 p))], [], (mhp (mO m [(10, y3), (11, y4)] []) c, N), 0, 0) (Q_wantBit m c N b g v p) := by
      intro y3 y4 q6 q7 ic8 ic9
      refine T_ret rfl (fun _ => rfl) ?_
      exact ⟨y3, y4, q6, q7, (by omega), (fun h => absurd h (by omega)), rfl⟩
    refine T_ld 1 (.ref 189) rfl (fun _ => rfl) ?_
    refine T_ld 2 (.int (i32 g)) rfl (fun _ => rfl) ?_
    refine T_if 21 5 rfl rfl rfl (r32 (by omega) (by omega)) (fun (h11 : g = 0) => ?_) (fun (h11 : ¬ (g = 0)) => ?_)
    · skip
      refine T_ld 22 (.int (i32 b)) rfl (fun _ => rfl) ?_
      refine T_ld 23 (.int (i32 1)) rfl (fun _ => rfl) ?_
      refine T_icmp 30 26 rfl rfl rfl (r32 (by omega) (by omega)) ⟨by decide, by decide⟩ (fun (h12 : b ≠ 1) => ?_) (fun (h12 : ¬ (b ≠ 1)) => ?_)
      · skip
        refine T_ld 31 (.int (i32 0)) rfl (fun _ => rfl) ?_
        refine T_ld 33 (.int (i32 p)) rfl (fun _ => rfl) ?_
        refine T_call 36 256 [.ref 189, .int (i32 0), .int (i32 p)] [] rfl (fun _ => rfl) rfl (c_want w (mO m [(10, (m.1 10)), (11, (m.1 11))] []) c N D (by omega) (Ty_mO hT rfl rfl ⟨f10, f11, trivial⟩ trivial) 0 p ⟨by decide, by decide⟩ (r32 (by omega) (by omega)) (show 0 ≤ p ∧ p ≤ 4000 by omega) (fun _ => trivial)) (fun rr13 k14 => ?_)
        obtain ⟨y15, y17, g16, g18, h19, c20, rfl⟩ := k14
        refine ⟨_, _, rfl, ?_⟩
        refine T_nf (st' := []) (l' := [(10, y15), (11, y17)]) (a' := []) rfl rfl rfl rfl rfl ?_
        by_cases hf21 : y15 = 0
        · skip
          subst hf21
          replace h19 : (m.1 10) = 0 := h19 rfl
          have c22 := c20 rfl
          replace c22 : (0 : Int) ≠ 0 := c22
          clear c20
          clear g16
          refine T_ret rfl (fun _ => rfl) ?_
          exact ⟨0, y17, ⟨by omega, by omega⟩, g18, (by omega), (fun _ => trivial), rfl⟩
        · skip
          clear c20
          clear h19
          have hf23 : 1 ≤ y15 := by omega
          exact J36_5 y15 y17 g16 g18 (by omega) (by omega)
      · skip
        refine T_ld 27 (.int (i32 1)) rfl (fun _ => rfl) ?_
        refine T_goto 31 rfl (fun _ => rfl) ?_
        refine T_ld 33 (.int (i32 p)) rfl (fun _ => rfl) ?_
        refine T_call 36 256 [.ref 189, .int (i32 1), .int (i32 p)] [] rfl (fun _ => rfl) rfl (c_want w (mO m [(10, (m.1 10)), (11, (m.1 11))] []) c N D (by omega) (Ty_mO hT rfl rfl ⟨f10, f11, trivial⟩ trivial) 1 p ⟨by decide, by decide⟩ (r32 (by omega) (by omega)) (show 0 ≤ p ∧ p ≤ 4000 by omega) (fun _ => trivial)) (fun rr24 k25 => ?_)
        obtain ⟨y26, y28, g27, g29, h30, c31, rfl⟩ := k25
        refine ⟨_, _, rfl, ?_⟩
        refine T_nf (st' := []) (l' := [(10, y26), (11, y28)]) (a' := []) rfl rfl rfl rfl rfl ?_
        by_cases hf32 : y26 = 0
        · skip
          subst hf32
          replace h30 : (m.1 10) = 0 := h30 rfl
          have c33 := c31 rfl
          replace c33 : (1 : Int) ≠ 0 := c33
          clear c31
          clear g27
          refine T_ret rfl (fun _ => rfl) ?_
          exact ⟨0, y28, ⟨by omega, by omega⟩, g29, (by omega), (fun _ => trivial), rfl⟩
        · skip
          clear c31
          clear h30
          have hf34 : 1 ≤ y26 := by omega
          exact J36_5 y26 y28 g27 g29 (by omega) (by omega)
    · skip
      refine T_ld 6 (.long (i64 v)) rfl (fun _ => rfl) ?_
      refine T_ld 7 (.int (i32 1)) rfl (fun _ => rfl) ?_
      refine T_lhv 8 _ rfl (fun _ => rfl) (fun z35 h36 => ?_)
      obtain ⟨h36a, h36b⟩ := h36
      refine T_ld 9 (.long (i64 0)) rfl (fun _ => rfl) ?_
      refine T_lcmp 10 rfl rfl (r64 (by omega) (by omega)) ⟨by decide, by decide⟩ (fun z37 h38 => ?_)
      obtain ⟨h38a, h38b, h38c, h38d, h38e⟩ := h38
      refine T_if 17 13 rfl rfl rfl (r32 (by omega) (by omega)) (fun (h39 : z37 ≠ 0) => ?_) (fun (h39 : ¬ (z37 ≠ 0)) => ?_)
      · skip
        have hl40 : z35 ≠ 0 := by omega
        refine T_ld 18 (.int (i32 0)) rfl (fun _ => rfl) ?_
        refine T_goto 31 rfl (fun _ => rfl) ?_
        refine T_ld 33 (.int (i32 p)) rfl (fun _ => rfl) ?_
        refine T_call 36 256 [.ref 189, .int (i32 0), .int (i32 p)] [] rfl (fun _ => rfl) rfl (c_want w (mO m [(10, (m.1 10)), (11, (m.1 11))] []) c N D (by omega) (Ty_mO hT rfl rfl ⟨f10, f11, trivial⟩ trivial) 0 p ⟨by decide, by decide⟩ (r32 (by omega) (by omega)) (show 0 ≤ p ∧ p ≤ 4000 by omega) (fun _ => trivial)) (fun rr41 k42 => ?_)
        obtain ⟨y43, y45, g44, g46, h47, c48, rfl⟩ := k42
        refine ⟨_, _, rfl, ?_⟩
        refine T_nf (st' := []) (l' := [(10, y43), (11, y45)]) (a' := []) rfl rfl rfl rfl rfl ?_
        by_cases hf49 : y43 = 0
        · skip
          subst hf49
          replace h47 : (m.1 10) = 0 := h47 rfl
          have c50 := c48 rfl
          replace c50 : (0 : Int) ≠ 0 := c50
          clear c48
          clear h36a h36b h38a h38b h38c h38d h38e h39 hl40 g44
          refine T_ret rfl (fun _ => rfl) ?_
          exact ⟨0, y45, ⟨by omega, by omega⟩, g46, (by omega), (fun _ => trivial), rfl⟩
        · skip
          clear c48
          clear h47
          have hf51 : 1 ≤ y43 := by omega
          clear h36a h36b h38a h38b h38c h38d h38e h39 hl40
          exact J36_5 y43 y45 g44 g46 (by omega) (by omega)
      · skip
        have hl52 : z35 = 0 := by omega
        refine T_ld 14 (.int (i32 1)) rfl (fun _ => rfl) ?_
        refine T_goto 31 rfl (fun _ => rfl) ?_
        refine T_ld 33 (.int (i32 p)) rfl (fun _ => rfl) ?_
        refine T_call 36 256 [.ref 189, .int (i32 1), .int (i32 p)] [] rfl (fun _ => rfl) rfl (c_want w (mO m [(10, (m.1 10)), (11, (m.1 11))] []) c N D (by omega) (Ty_mO hT rfl rfl ⟨f10, f11, trivial⟩ trivial) 1 p ⟨by decide, by decide⟩ (r32 (by omega) (by omega)) (show 0 ≤ p ∧ p ≤ 4000 by omega) (fun _ => trivial)) (fun rr53 k54 => ?_)
        obtain ⟨y55, y57, g56, g58, h59, c60, rfl⟩ := k54
        refine ⟨_, _, rfl, ?_⟩
        refine T_nf (st' := []) (l' := [(10, y55), (11, y57)]) (a' := []) rfl rfl rfl rfl rfl ?_
        by_cases hf61 : y55 = 0
        · skip
          subst hf61
          replace h59 : (m.1 10) = 0 := h59 rfl
          have c62 := c60 rfl
          replace c62 : (1 : Int) ≠ 0 := c62
          clear c60
          clear h36a h36b h38a h38b h38c h38d h38e h39 hl52 g56
          refine T_ret rfl (fun _ => rfl) ?_
          exact ⟨0, y57, ⟨by omega, by omega⟩, g58, (by omega), (fun _ => trivial), rfl⟩
        · skip
          clear c60
          clear h59
          have hf63 : 1 ≤ y55 := by omega
          clear h36a h36b h38a h38b h38c h38d h38e h39 hl52
          exact J36_5 y55 y57 g56 g58 (by omega) (by omega)
  · skip
    clear hC
    refine T_ld 1 (.ref 189) rfl (fun _ => rfl) ?_
    refine T_ld 2 (.int (i32 g)) rfl (fun _ => rfl) ?_
    refine T_if 21 5 rfl rfl rfl (r32 (by omega) (by omega)) (fun (h64 : g = 0) => ?_) (fun (h64 : ¬ (g = 0)) => ?_)
    · skip
      refine T_ld 22 (.int (i32 b)) rfl (fun _ => rfl) ?_
      refine T_ld 23 (.int (i32 1)) rfl (fun _ => rfl) ?_
      refine T_icmp 30 26 rfl rfl rfl (r32 (by omega) (by omega)) ⟨by decide, by decide⟩ (fun (h65 : b ≠ 1) => ?_) (fun (h65 : ¬ (b ≠ 1)) => ?_)
      · skip
        refine T_ld 31 (.int (i32 0)) rfl (fun _ => rfl) ?_
        refine T_ld 33 (.int (i32 p)) rfl (fun _ => rfl) ?_
        refine T_call 36 256 [.ref 189, .int (i32 0), .int (i32 p)] [] rfl (fun _ => rfl) rfl (c_want w (mO m [(10, (m.1 10)), (11, (m.1 11))] []) c N D (by omega) (Ty_mO hT rfl rfl ⟨f10, f11, trivial⟩ trivial) 0 p ⟨by decide, by decide⟩ (r32 (by omega) (by omega)) (show 0 ≤ p ∧ p ≤ 4000 by omega) (fun (h : (m.1 10) = 0) => absurd h (by omega))) (fun rr66 k67 => ?_)
        obtain ⟨y68, y70, g69, g71, h72, c73, rfl⟩ := k67
        refine ⟨_, _, rfl, ?_⟩
        refine T_nf (st' := []) (l' := [(10, y68), (11, y70)]) (a' := []) rfl rfl rfl rfl rfl ?_
        replace h72 : y68 = 0 → (m.1 10) = 0 := h72
        have hf74 : 1 ≤ y68 := by omega
        clear c73
        clear h72
        refine T_ret rfl (fun _ => rfl) ?_
        exact ⟨y68, y70, g69, g71, (by omega), (fun h => absurd h (by omega)), rfl⟩
      · skip
        refine T_ld 27 (.int (i32 1)) rfl (fun _ => rfl) ?_
        refine T_goto 31 rfl (fun _ => rfl) ?_
        refine T_ld 33 (.int (i32 p)) rfl (fun _ => rfl) ?_
        refine T_call 36 256 [.ref 189, .int (i32 1), .int (i32 p)] [] rfl (fun _ => rfl) rfl (c_want w (mO m [(10, (m.1 10)), (11, (m.1 11))] []) c N D (by omega) (Ty_mO hT rfl rfl ⟨f10, f11, trivial⟩ trivial) 1 p ⟨by decide, by decide⟩ (r32 (by omega) (by omega)) (show 0 ≤ p ∧ p ≤ 4000 by omega) (fun (h : (m.1 10) = 0) => absurd h (by omega))) (fun rr75 k76 => ?_)
        obtain ⟨y77, y79, g78, g80, h81, c82, rfl⟩ := k76
        refine ⟨_, _, rfl, ?_⟩
        refine T_nf (st' := []) (l' := [(10, y77), (11, y79)]) (a' := []) rfl rfl rfl rfl rfl ?_
        replace h81 : y77 = 0 → (m.1 10) = 0 := h81
        have hf83 : 1 ≤ y77 := by omega
        clear c82
        clear h81
        refine T_ret rfl (fun _ => rfl) ?_
        exact ⟨y77, y79, g78, g80, (by omega), (fun h => absurd h (by omega)), rfl⟩
    · skip
      refine T_ld 6 (.long (i64 v)) rfl (fun _ => rfl) ?_
      refine T_ld 7 (.int (i32 1)) rfl (fun _ => rfl) ?_
      refine T_lhv 8 _ rfl (fun _ => rfl) (fun z84 h85 => ?_)
      obtain ⟨h85a, h85b⟩ := h85
      refine T_ld 9 (.long (i64 0)) rfl (fun _ => rfl) ?_
      refine T_lcmp 10 rfl rfl (r64 (by omega) (by omega)) ⟨by decide, by decide⟩ (fun z86 h87 => ?_)
      obtain ⟨h87a, h87b, h87c, h87d, h87e⟩ := h87
      refine T_if 17 13 rfl rfl rfl (r32 (by omega) (by omega)) (fun (h88 : z86 ≠ 0) => ?_) (fun (h88 : ¬ (z86 ≠ 0)) => ?_)
      · skip
        have hl89 : z84 ≠ 0 := by omega
        refine T_ld 18 (.int (i32 0)) rfl (fun _ => rfl) ?_
        refine T_goto 31 rfl (fun _ => rfl) ?_
        refine T_ld 33 (.int (i32 p)) rfl (fun _ => rfl) ?_
        refine T_call 36 256 [.ref 189, .int (i32 0), .int (i32 p)] [] rfl (fun _ => rfl) rfl (c_want w (mO m [(10, (m.1 10)), (11, (m.1 11))] []) c N D (by omega) (Ty_mO hT rfl rfl ⟨f10, f11, trivial⟩ trivial) 0 p ⟨by decide, by decide⟩ (r32 (by omega) (by omega)) (show 0 ≤ p ∧ p ≤ 4000 by omega) (fun (h : (m.1 10) = 0) => absurd h (by omega))) (fun rr90 k91 => ?_)
        obtain ⟨y92, y94, g93, g95, h96, c97, rfl⟩ := k91
        refine ⟨_, _, rfl, ?_⟩
        refine T_nf (st' := []) (l' := [(10, y92), (11, y94)]) (a' := []) rfl rfl rfl rfl rfl ?_
        replace h96 : y92 = 0 → (m.1 10) = 0 := h96
        have hf98 : 1 ≤ y92 := by omega
        clear c97
        clear h96
        clear h85a h85b h87a h87b h87c h87d h87e h88 hl89
        refine T_ret rfl (fun _ => rfl) ?_
        exact ⟨y92, y94, g93, g95, (by omega), (fun h => absurd h (by omega)), rfl⟩
      · skip
        have hl99 : z84 = 0 := by omega
        refine T_ld 14 (.int (i32 1)) rfl (fun _ => rfl) ?_
        refine T_goto 31 rfl (fun _ => rfl) ?_
        refine T_ld 33 (.int (i32 p)) rfl (fun _ => rfl) ?_
        refine T_call 36 256 [.ref 189, .int (i32 1), .int (i32 p)] [] rfl (fun _ => rfl) rfl (c_want w (mO m [(10, (m.1 10)), (11, (m.1 11))] []) c N D (by omega) (Ty_mO hT rfl rfl ⟨f10, f11, trivial⟩ trivial) 1 p ⟨by decide, by decide⟩ (r32 (by omega) (by omega)) (show 0 ≤ p ∧ p ≤ 4000 by omega) (fun (h : (m.1 10) = 0) => absurd h (by omega))) (fun rr100 k101 => ?_)
        obtain ⟨y102, y104, g103, g105, h106, c107, rfl⟩ := k101
        refine ⟨_, _, rfl, ?_⟩
        refine T_nf (st' := []) (l' := [(10, y102), (11, y104)]) (a' := []) rfl rfl rfl rfl rfl ?_
        replace h106 : y102 = 0 → (m.1 10) = 0 := h106
        have hf108 : 1 ≤ y102 := by omega
        clear c107
        clear h106
        clear h85a h85b h87a h87b h87c h87d h87e h88 hl99
        refine T_ret rfl (fun _ => rfl) ?_
        exact ⟨y102, y104, g103, g105, (by omega), (fun h => absurd h (by omega)), rfl⟩
def Q_common (m : mR) (c : Nat → Option am_C) (N : Nat) (a : Int) (g : Int) (v : Int) (p : Int) (e : Int) (k : Int) (x : Int) (q : Int) : ag_Re af_T → Prop := fun R => ∃ (y10 : Int) (y11 : Int) (r : Int), (0 ≤ y10 ∧ y10 ≤ 8) ∧ ((-1) ≤ y11 ∧ y11 ≤ 4000) ∧ ((-2147483648) ≤ r ∧ r ≤ 2147483647) ∧ (y10 = 0 → (m.1 10) = 0) ∧ (r = 64 ∨ r = a ∨ r = e) ∧ (y10 = 0 → True) ∧ R = (.inl (some (.int (i32 r))), (mhp (mO m [(10, y10), (11, y11)] []) c, N), 0, 0)
set_option maxHeartbeats 8000000 in
theorem c_common (w : wX) (m : mR) (c : Nat → Option am_C) (N D : Nat) (hD : 3 ≤ D) (hT : Ty m) (a : Int) (g : Int) (v : Int) (p : Int) (e : Int) (k : Int) (x : Int) (q : Int) (qa : R32 a) (qg : R32 g) (qv : R64 v) (qp : R32 p) (qe : R32 e) (qk : R32 k) (qx : R64 x) (qq : R32 q) (p0 : 0 ≤ p ∧ p ≤ 4000) (p1 : 0 ≤ q ∧ q ≤ 4000) (p2 : 0 ≤ a ∧ a ≤ 1024) (p3 : 0 ≤ e ∧ e ≤ 1024) (hC : m.1 10 = 0 → True) : TC w D 261 [.ref 189, .int (i32 a), .int (i32 g), .long (i64 v), .int (i32 p), .int (i32 e), .int (i32 k), .long (i64 x), .int (i32 q)] (mhp m c, N) (Q_common m c N a g v p e k x q) := by
  obtain ⟨D, rfl⟩ : ∃ k, D = k + 1 := ⟨D - 1, by omega⟩
  obtain ⟨qaa, qab⟩ := id qa
  obtain ⟨qga, qgb⟩ := id qg
  obtain ⟨qva, qvb⟩ := id qv
  obtain ⟨qpa, qpb⟩ := id qp
  obtain ⟨qea, qeb⟩ := id qe
  obtain ⟨qka, qkb⟩ := id qk
  obtain ⟨qxa, qxb⟩ := id qx
  obtain ⟨qqa, qqb⟩ := id qq
  have f10 : 0 ≤ m.1 10 ∧ m.1 10 ≤ 8 := hT.1 10
  have f11 : (-1) ≤ m.1 11 ∧ m.1 11 ≤ 4000 := hT.1 11
  refine Tc_of rfl ?_
  show TT w D pm_261 (0, [(0, .ref 189), (1, .int (i32 a)), (2, .int (i32 g)), (3, .long (i64 v)), (5, .int (i32 p)), (6, .int (i32 e)), (7, .int (i32 k)), (8, .long (i64 x)), (10, .int (i32 q))], [], (mhp m c, N), 0, 0) (Q_common m c N a g v p e k x q)
  rw [show (mhp m c, N) = (mhp (mO m [(10, (m.1 10)), (11, (m.1 11))] []) c, N) from congrArg (fun M => (mhp M c, N)) (mO_pad m [10, 11] [])]
  by_cases hf0 : m.1 10 = 0
  · skip
    have J68_9 : ∀ (y7 : Int) (y8 : Int), (0 ≤ y7 ∧ y7 ≤ 8) → ((-1) ≤ y8 ∧ y8 ≤ 4000) → (1 ≤ y7) → (y7 ≤ 8) → TT w D pm_261 (68, [(0, .ref 189), (1, .int (i32 a)), (2, .int (i32 g)), (3, .long (i64 v)), (5, .int (i32 p)), (6, .int (i32 e)), (7, .int (i32 k)), (8, .long (i64 x)), (10, .int (i32 q))], [], (mhp (mO m [(10, y7), (11, y8)] []) c, N), 0, 0) (Q_common m c N a g v p e k x q) := by
      intro y7 y8 q10 q11 ic12 ic13
      refine T_ld 69 (.int (i32 a)) rfl (fun _ => rfl) ?_
      refine T_ret rfl (fun _ => rfl) ?_
      exact ⟨y7, y8, a, q10, q11, ⟨by omega, by omega⟩, (by omega), (by omega), (fun h => absurd h (by omega)), rfl⟩
    refine T_ld 1 (.int (i32 g)) rfl (fun _ => rfl) ?_
    refine T_if 12 4 rfl rfl rfl (r32 (by omega) (by omega)) (fun (h15 : g = 0) => ?_) (fun (h15 : ¬ (g = 0)) => ?_)
    · skip
      refine T_ld 13 (.int (i32 g)) rfl (fun _ => rfl) ?_
      refine T_if 31 16 rfl rfl rfl (r32 (by omega) (by omega)) (fun (h16 : g = 0) => ?_) (fun (h16 : ¬ (g = 0)) => by exfalso; omega)
      refine T_ld 33 (.int (i32 k)) rfl (fun _ => rfl) ?_
      refine T_if 51 36 rfl rfl rfl (r32 (by omega) (by omega)) (fun (h17 : k = 0) => ?_) (fun (h17 : ¬ (k = 0)) => ?_)
      · skip
        refine T_ld 52 (.ref 189) rfl (fun _ => rfl) ?_
        refine T_ld 53 (.int (i32 a)) rfl (fun _ => rfl) ?_
        refine T_ld 55 (.int (i32 e)) rfl (fun _ => rfl) ?_
        refine T_icmp 62 58 rfl rfl rfl (r32 (by omega) (by omega)) (r32 (by omega) (by omega)) (fun (h18 : a ≠ e) => ?_) (fun (h18 : ¬ (a ≠ e)) => ?_)
        · skip
          refine T_ld 63 (.int (i32 0)) rfl (fun _ => rfl) ?_
          refine T_ld 65 (.int (i32 q)) rfl (fun _ => rfl) ?_
          refine T_call 68 256 [.ref 189, .int (i32 0), .int (i32 q)] [] rfl (fun _ => rfl) rfl (c_want w (mO m [(10, (m.1 10)), (11, (m.1 11))] []) c N D (by omega) (Ty_mO hT rfl rfl ⟨f10, f11, trivial⟩ trivial) 0 q ⟨by decide, by decide⟩ (r32 (by omega) (by omega)) (show 0 ≤ q ∧ q ≤ 4000 by omega) (fun _ => trivial)) (fun rr19 k20 => ?_)
          obtain ⟨y21, y23, g22, g24, h25, c26, rfl⟩ := k20
          refine ⟨_, _, rfl, ?_⟩
          refine T_nf (st' := []) (l' := [(10, y21), (11, y23)]) (a' := []) rfl rfl rfl rfl rfl ?_
          by_cases hf27 : y21 = 0
          · skip
            subst hf27
            replace h25 : (m.1 10) = 0 := h25 rfl
            have c28 := c26 rfl
            replace c28 : (0 : Int) ≠ 0 := c28
            clear c26
            clear g22
            refine T_ld 69 (.int (i32 a)) rfl (fun _ => rfl) ?_
            refine T_ret rfl (fun _ => rfl) ?_
            exact ⟨0, y23, a, ⟨by omega, by omega⟩, g24, ⟨by omega, by omega⟩, (by omega), (by omega), (fun _ => trivial), rfl⟩
          · skip
            clear c26
            clear h25
            have hf29 : 1 ≤ y21 := by omega
            exact J68_9 y21 y23 g22 g24 (by omega) (by omega)
        · skip
          refine T_ld 59 (.int (i32 1)) rfl (fun _ => rfl) ?_
          refine T_goto 63 rfl (fun _ => rfl) ?_
          refine T_ld 65 (.int (i32 q)) rfl (fun _ => rfl) ?_
          refine T_call 68 256 [.ref 189, .int (i32 1), .int (i32 q)] [] rfl (fun _ => rfl) rfl (c_want w (mO m [(10, (m.1 10)), (11, (m.1 11))] []) c N D (by omega) (Ty_mO hT rfl rfl ⟨f10, f11, trivial⟩ trivial) 1 q ⟨by decide, by decide⟩ (r32 (by omega) (by omega)) (show 0 ≤ q ∧ q ≤ 4000 by omega) (fun _ => trivial)) (fun rr30 k31 => ?_)
          obtain ⟨y32, y34, g33, g35, h36, c37, rfl⟩ := k31
          refine ⟨_, _, rfl, ?_⟩
          refine T_nf (st' := []) (l' := [(10, y32), (11, y34)]) (a' := []) rfl rfl rfl rfl rfl ?_
          by_cases hf38 : y32 = 0
          · skip
            subst hf38
            replace h36 : (m.1 10) = 0 := h36 rfl
            have c39 := c37 rfl
            replace c39 : (1 : Int) ≠ 0 := c39
            clear c37
            clear g33
            refine T_ld 69 (.int (i32 a)) rfl (fun _ => rfl) ?_
            refine T_ret rfl (fun _ => rfl) ?_
            exact ⟨0, y34, a, ⟨by omega, by omega⟩, g35, ⟨by omega, by omega⟩, (by omega), (by omega), (fun _ => trivial), rfl⟩
          · skip
            clear c37
            clear h36
            have hf40 : 1 ≤ y32 := by omega
            exact J68_9 y32 y34 g33 g35 (by omega) (by omega)
      · skip
        refine T_ld 37 (.ref 189) rfl (fun _ => rfl) ?_
        refine T_ld 39 (.long (i64 x)) rfl (fun _ => rfl) ?_
        refine T_ld 40 (.int (i32 a)) rfl (fun _ => rfl) ?_
        refine T_call 43 262 [.long (i64 x), .int (i32 a)] [.ref 189] rfl (fun _ => rfl) rfl (c_fits w (mO m [(10, (m.1 10)), (11, (m.1 11))] []) c N D (by omega) (Ty_mO hT rfl rfl ⟨f10, f11, trivial⟩ trivial) x a (r64 (by omega) (by omega)) (r32 (by omega) (by omega))) (fun rr41 k42 => ?_)
        obtain ⟨x43, g44, rfl⟩ := k42
        refine ⟨_, _, rfl, ?_⟩
        refine T_nf (st' := [.int (i32 x43), .ref 189]) (l' := [(10, (m.1 10)), (11, (m.1 11))]) (a' := []) rfl rfl rfl rfl rfl ?_
        obtain ⟨g44a, g44b⟩ := g44
        refine T_ld 45 (.int (i32 q)) rfl (fun _ => rfl) ?_
        refine T_call 48 256 [.ref 189, .int (i32 x43), .int (i32 q)] [] rfl (fun _ => rfl) rfl (c_want w (mO m [(10, (m.1 10)), (11, (m.1 11))] []) c N D (by omega) (Ty_mO hT rfl rfl ⟨f10, f11, trivial⟩ trivial) x43 q (r32 (by omega) (by omega)) (r32 (by omega) (by omega)) (show 0 ≤ q ∧ q ≤ 4000 by omega) (fun _ => trivial)) (fun rr45 k46 => ?_)
        obtain ⟨y47, y49, g48, g50, h51, c52, rfl⟩ := k46
        refine ⟨_, _, rfl, ?_⟩
        refine T_nf (st' := []) (l' := [(10, y47), (11, y49)]) (a' := []) rfl rfl rfl rfl rfl ?_
        by_cases hf53 : y47 = 0
        · skip
          subst hf53
          replace h51 : (m.1 10) = 0 := h51 rfl
          have c54 := c52 rfl
          replace c54 : x43 ≠ 0 := c54
          clear c52
          clear g44a g44b g48 c54
          refine T_goto 68 rfl (fun _ => rfl) ?_
          refine T_ld 69 (.int (i32 a)) rfl (fun _ => rfl) ?_
          refine T_ret rfl (fun _ => rfl) ?_
          exact ⟨0, y49, a, ⟨by omega, by omega⟩, g50, ⟨by omega, by omega⟩, (by omega), (by omega), (fun _ => trivial), rfl⟩
        · skip
          clear c52
          clear h51
          have hf55 : 1 ≤ y47 := by omega
          clear g44a g44b
          refine T_goto 68 rfl (fun _ => rfl) ?_
          refine T_ld 69 (.int (i32 a)) rfl (fun _ => rfl) ?_
          refine T_ret rfl (fun _ => rfl) ?_
          exact ⟨y47, y49, a, g48, g50, ⟨by omega, by omega⟩, (by omega), (by omega), (fun h => absurd h (by omega)), rfl⟩
    · skip
      refine T_ld 6 (.int (i32 k)) rfl (fun _ => rfl) ?_
      refine T_if 12 9 rfl rfl rfl (r32 (by omega) (by omega)) (fun (h56 : k = 0) => ?_) (fun (h56 : ¬ (k = 0)) => ?_)
      · skip
        refine T_ld 13 (.int (i32 g)) rfl (fun _ => rfl) ?_
        refine T_if 31 16 rfl rfl rfl (r32 (by omega) (by omega)) (fun (h57 : g = 0) => ?_) (fun (h57 : ¬ (g = 0)) => ?_)
        · skip
          refine T_ld 33 (.int (i32 k)) rfl (fun _ => rfl) ?_
          refine T_if 51 36 rfl rfl rfl (r32 (by omega) (by omega)) (fun (h58 : k = 0) => ?_) (fun (h58 : ¬ (k = 0)) => by exfalso; omega)
          refine T_ld 52 (.ref 189) rfl (fun _ => rfl) ?_
          refine T_ld 53 (.int (i32 a)) rfl (fun _ => rfl) ?_
          refine T_ld 55 (.int (i32 e)) rfl (fun _ => rfl) ?_
          refine T_icmp 62 58 rfl rfl rfl (r32 (by omega) (by omega)) (r32 (by omega) (by omega)) (fun (h59 : a ≠ e) => ?_) (fun (h59 : ¬ (a ≠ e)) => ?_)
          · skip
            refine T_ld 63 (.int (i32 0)) rfl (fun _ => rfl) ?_
            refine T_ld 65 (.int (i32 q)) rfl (fun _ => rfl) ?_
            refine T_call 68 256 [.ref 189, .int (i32 0), .int (i32 q)] [] rfl (fun _ => rfl) rfl (c_want w (mO m [(10, (m.1 10)), (11, (m.1 11))] []) c N D (by omega) (Ty_mO hT rfl rfl ⟨f10, f11, trivial⟩ trivial) 0 q ⟨by decide, by decide⟩ (r32 (by omega) (by omega)) (show 0 ≤ q ∧ q ≤ 4000 by omega) (fun _ => trivial)) (fun rr60 k61 => ?_)
            obtain ⟨y62, y64, g63, g65, h66, c67, rfl⟩ := k61
            refine ⟨_, _, rfl, ?_⟩
            refine T_nf (st' := []) (l' := [(10, y62), (11, y64)]) (a' := []) rfl rfl rfl rfl rfl ?_
            by_cases hf68 : y62 = 0
            · skip
              subst hf68
              replace h66 : (m.1 10) = 0 := h66 rfl
              have c69 := c67 rfl
              replace c69 : (0 : Int) ≠ 0 := c69
              clear c67
              clear g63
              refine T_ld 69 (.int (i32 a)) rfl (fun _ => rfl) ?_
              refine T_ret rfl (fun _ => rfl) ?_
              exact ⟨0, y64, a, ⟨by omega, by omega⟩, g65, ⟨by omega, by omega⟩, (by omega), (by omega), (fun _ => trivial), rfl⟩
            · skip
              clear c67
              clear h66
              have hf70 : 1 ≤ y62 := by omega
              exact J68_9 y62 y64 g63 g65 (by omega) (by omega)
          · skip
            refine T_ld 59 (.int (i32 1)) rfl (fun _ => rfl) ?_
            refine T_goto 63 rfl (fun _ => rfl) ?_
            refine T_ld 65 (.int (i32 q)) rfl (fun _ => rfl) ?_
            refine T_call 68 256 [.ref 189, .int (i32 1), .int (i32 q)] [] rfl (fun _ => rfl) rfl (c_want w (mO m [(10, (m.1 10)), (11, (m.1 11))] []) c N D (by omega) (Ty_mO hT rfl rfl ⟨f10, f11, trivial⟩ trivial) 1 q ⟨by decide, by decide⟩ (r32 (by omega) (by omega)) (show 0 ≤ q ∧ q ≤ 4000 by omega) (fun _ => trivial)) (fun rr71 k72 => ?_)
            obtain ⟨y73, y75, g74, g76, h77, c78, rfl⟩ := k72
            refine ⟨_, _, rfl, ?_⟩
            refine T_nf (st' := []) (l' := [(10, y73), (11, y75)]) (a' := []) rfl rfl rfl rfl rfl ?_
            by_cases hf79 : y73 = 0
            · skip
              subst hf79
              replace h77 : (m.1 10) = 0 := h77 rfl
              have c80 := c78 rfl
              replace c80 : (1 : Int) ≠ 0 := c80
              clear c78
              clear g74
              refine T_ld 69 (.int (i32 a)) rfl (fun _ => rfl) ?_
              refine T_ret rfl (fun _ => rfl) ?_
              exact ⟨0, y75, a, ⟨by omega, by omega⟩, g76, ⟨by omega, by omega⟩, (by omega), (by omega), (fun _ => trivial), rfl⟩
            · skip
              clear c78
              clear h77
              have hf81 : 1 ≤ y73 := by omega
              exact J68_9 y73 y75 g74 g76 (by omega) (by omega)
        · skip
          refine T_ld 17 (.ref 189) rfl (fun _ => rfl) ?_
          refine T_ld 18 (.long (i64 v)) rfl (fun _ => rfl) ?_
          refine T_ld 20 (.int (i32 e)) rfl (fun _ => rfl) ?_
          refine T_call 23 262 [.long (i64 v), .int (i32 e)] [.ref 189] rfl (fun _ => rfl) rfl (c_fits w (mO m [(10, (m.1 10)), (11, (m.1 11))] []) c N D (by omega) (Ty_mO hT rfl rfl ⟨f10, f11, trivial⟩ trivial) v e (r64 (by omega) (by omega)) (r32 (by omega) (by omega))) (fun rr82 k83 => ?_)
          obtain ⟨x84, g85, rfl⟩ := k83
          refine ⟨_, _, rfl, ?_⟩
          refine T_nf (st' := [.int (i32 x84), .ref 189]) (l' := [(10, (m.1 10)), (11, (m.1 11))]) (a' := []) rfl rfl rfl rfl rfl ?_
          obtain ⟨g85a, g85b⟩ := g85
          refine T_ld 25 (.int (i32 p)) rfl (fun _ => rfl) ?_
          refine T_call 28 256 [.ref 189, .int (i32 x84), .int (i32 p)] [] rfl (fun _ => rfl) rfl (c_want w (mO m [(10, (m.1 10)), (11, (m.1 11))] []) c N D (by omega) (Ty_mO hT rfl rfl ⟨f10, f11, trivial⟩ trivial) x84 p (r32 (by omega) (by omega)) (r32 (by omega) (by omega)) (show 0 ≤ p ∧ p ≤ 4000 by omega) (fun _ => trivial)) (fun rr86 k87 => ?_)
          obtain ⟨y88, y90, g89, g91, h92, c93, rfl⟩ := k87
          refine ⟨_, _, rfl, ?_⟩
          refine T_nf (st' := []) (l' := [(10, y88), (11, y90)]) (a' := []) rfl rfl rfl rfl rfl ?_
          by_cases hf94 : y88 = 0
          · skip
            subst hf94
            replace h92 : (m.1 10) = 0 := h92 rfl
            have c95 := c93 rfl
            replace c95 : x84 ≠ 0 := c95
            clear c93
            clear g85a g85b g89 c95
            refine T_ld 30 (.int (i32 e)) rfl (fun _ => rfl) ?_
            refine T_ret rfl (fun _ => rfl) ?_
            exact ⟨0, y90, e, ⟨by omega, by omega⟩, g91, ⟨by omega, by omega⟩, (by omega), (by omega), (fun _ => trivial), rfl⟩
          · skip
            clear c93
            clear h92
            have hf96 : 1 ≤ y88 := by omega
            clear g85a g85b
            refine T_ld 30 (.int (i32 e)) rfl (fun _ => rfl) ?_
            refine T_ret rfl (fun _ => rfl) ?_
            exact ⟨y88, y90, e, g89, g91, ⟨by omega, by omega⟩, (by omega), (by omega), (fun h => absurd h (by omega)), rfl⟩
      · skip
        refine T_ld 11 (.int (i32 64)) rfl (fun _ => rfl) ?_
        refine T_ret rfl (fun _ => rfl) ?_
        exact ⟨(m.1 10), (m.1 11), 64, f10, f11, ⟨by omega, by omega⟩, (by omega), (by omega), (fun _ => trivial), rfl⟩
  · skip
    clear hC
    refine T_ld 1 (.int (i32 g)) rfl (fun _ => rfl) ?_
    refine T_if 12 4 rfl rfl rfl (r32 (by omega) (by omega)) (fun (h97 : g = 0) => ?_) (fun (h97 : ¬ (g = 0)) => ?_)
    · skip
      refine T_ld 13 (.int (i32 g)) rfl (fun _ => rfl) ?_
      refine T_if 31 16 rfl rfl rfl (r32 (by omega) (by omega)) (fun (h98 : g = 0) => ?_) (fun (h98 : ¬ (g = 0)) => by exfalso; omega)
      refine T_ld 33 (.int (i32 k)) rfl (fun _ => rfl) ?_
      refine T_if 51 36 rfl rfl rfl (r32 (by omega) (by omega)) (fun (h99 : k = 0) => ?_) (fun (h99 : ¬ (k = 0)) => ?_)
      · skip
        refine T_ld 52 (.ref 189) rfl (fun _ => rfl) ?_
        refine T_ld 53 (.int (i32 a)) rfl (fun _ => rfl) ?_
        refine T_ld 55 (.int (i32 e)) rfl (fun _ => rfl) ?_
        refine T_icmp 62 58 rfl rfl rfl (r32 (by omega) (by omega)) (r32 (by omega) (by omega)) (fun (h100 : a ≠ e) => ?_) (fun (h100 : ¬ (a ≠ e)) => ?_)
        · skip
          refine T_ld 63 (.int (i32 0)) rfl (fun _ => rfl) ?_
          refine T_ld 65 (.int (i32 q)) rfl (fun _ => rfl) ?_
          refine T_call 68 256 [.ref 189, .int (i32 0), .int (i32 q)] [] rfl (fun _ => rfl) rfl (c_want w (mO m [(10, (m.1 10)), (11, (m.1 11))] []) c N D (by omega) (Ty_mO hT rfl rfl ⟨f10, f11, trivial⟩ trivial) 0 q ⟨by decide, by decide⟩ (r32 (by omega) (by omega)) (show 0 ≤ q ∧ q ≤ 4000 by omega) (fun (h : (m.1 10) = 0) => absurd h (by omega))) (fun rr101 k102 => ?_)
          obtain ⟨y103, y105, g104, g106, h107, c108, rfl⟩ := k102
          refine ⟨_, _, rfl, ?_⟩
          refine T_nf (st' := []) (l' := [(10, y103), (11, y105)]) (a' := []) rfl rfl rfl rfl rfl ?_
          replace h107 : y103 = 0 → (m.1 10) = 0 := h107
          have hf109 : 1 ≤ y103 := by omega
          clear c108
          clear h107
          refine T_ld 69 (.int (i32 a)) rfl (fun _ => rfl) ?_
          refine T_ret rfl (fun _ => rfl) ?_
          exact ⟨y103, y105, a, g104, g106, ⟨by omega, by omega⟩, (by omega), (by omega), (fun h => absurd h (by omega)), rfl⟩
        · skip
          refine T_ld 59 (.int (i32 1)) rfl (fun _ => rfl) ?_
          refine T_goto 63 rfl (fun _ => rfl) ?_
          refine T_ld 65 (.int (i32 q)) rfl (fun _ => rfl) ?_
          refine T_call 68 256 [.ref 189, .int (i32 1), .int (i32 q)] [] rfl (fun _ => rfl) rfl (c_want w (mO m [(10, (m.1 10)), (11, (m.1 11))] []) c N D (by omega) (Ty_mO hT rfl rfl ⟨f10, f11, trivial⟩ trivial) 1 q ⟨by decide, by decide⟩ (r32 (by omega) (by omega)) (show 0 ≤ q ∧ q ≤ 4000 by omega) (fun (h : (m.1 10) = 0) => absurd h (by omega))) (fun rr110 k111 => ?_)
          obtain ⟨y112, y114, g113, g115, h116, c117, rfl⟩ := k111
          refine ⟨_, _, rfl, ?_⟩
          refine T_nf (st' := []) (l' := [(10, y112), (11, y114)]) (a' := []) rfl rfl rfl rfl rfl ?_
          replace h116 : y112 = 0 → (m.1 10) = 0 := h116
          have hf118 : 1 ≤ y112 := by omega
          clear c117
          clear h116
          refine T_ld 69 (.int (i32 a)) rfl (fun _ => rfl) ?_
          refine T_ret rfl (fun _ => rfl) ?_
          exact ⟨y112, y114, a, g113, g115, ⟨by omega, by omega⟩, (by omega), (by omega), (fun h => absurd h (by omega)), rfl⟩
      · skip
        refine T_ld 37 (.ref 189) rfl (fun _ => rfl) ?_
        refine T_ld 39 (.long (i64 x)) rfl (fun _ => rfl) ?_
        refine T_ld 40 (.int (i32 a)) rfl (fun _ => rfl) ?_
        refine T_call 43 262 [.long (i64 x), .int (i32 a)] [.ref 189] rfl (fun _ => rfl) rfl (c_fits w (mO m [(10, (m.1 10)), (11, (m.1 11))] []) c N D (by omega) (Ty_mO hT rfl rfl ⟨f10, f11, trivial⟩ trivial) x a (r64 (by omega) (by omega)) (r32 (by omega) (by omega))) (fun rr119 k120 => ?_)
        obtain ⟨x121, g122, rfl⟩ := k120
        refine ⟨_, _, rfl, ?_⟩
        refine T_nf (st' := [.int (i32 x121), .ref 189]) (l' := [(10, (m.1 10)), (11, (m.1 11))]) (a' := []) rfl rfl rfl rfl rfl ?_
        obtain ⟨g122a, g122b⟩ := g122
        refine T_ld 45 (.int (i32 q)) rfl (fun _ => rfl) ?_
        refine T_call 48 256 [.ref 189, .int (i32 x121), .int (i32 q)] [] rfl (fun _ => rfl) rfl (c_want w (mO m [(10, (m.1 10)), (11, (m.1 11))] []) c N D (by omega) (Ty_mO hT rfl rfl ⟨f10, f11, trivial⟩ trivial) x121 q (r32 (by omega) (by omega)) (r32 (by omega) (by omega)) (show 0 ≤ q ∧ q ≤ 4000 by omega) (fun (h : (m.1 10) = 0) => absurd h (by omega))) (fun rr123 k124 => ?_)
        obtain ⟨y125, y127, g126, g128, h129, c130, rfl⟩ := k124
        refine ⟨_, _, rfl, ?_⟩
        refine T_nf (st' := []) (l' := [(10, y125), (11, y127)]) (a' := []) rfl rfl rfl rfl rfl ?_
        replace h129 : y125 = 0 → (m.1 10) = 0 := h129
        have hf131 : 1 ≤ y125 := by omega
        clear c130
        clear h129
        clear g122a g122b
        refine T_goto 68 rfl (fun _ => rfl) ?_
        refine T_ld 69 (.int (i32 a)) rfl (fun _ => rfl) ?_
        refine T_ret rfl (fun _ => rfl) ?_
        exact ⟨y125, y127, a, g126, g128, ⟨by omega, by omega⟩, (by omega), (by omega), (fun h => absurd h (by omega)), rfl⟩
    · skip
      refine T_ld 6 (.int (i32 k)) rfl (fun _ => rfl) ?_
      refine T_if 12 9 rfl rfl rfl (r32 (by omega) (by omega)) (fun (h132 : k = 0) => ?_) (fun (h132 : ¬ (k = 0)) => ?_)
      · skip
        refine T_ld 13 (.int (i32 g)) rfl (fun _ => rfl) ?_
        refine T_if 31 16 rfl rfl rfl (r32 (by omega) (by omega)) (fun (h133 : g = 0) => ?_) (fun (h133 : ¬ (g = 0)) => ?_)
        · skip
          refine T_ld 33 (.int (i32 k)) rfl (fun _ => rfl) ?_
          refine T_if 51 36 rfl rfl rfl (r32 (by omega) (by omega)) (fun (h134 : k = 0) => ?_) (fun (h134 : ¬ (k = 0)) => by exfalso; omega)
          refine T_ld 52 (.ref 189) rfl (fun _ => rfl) ?_
          refine T_ld 53 (.int (i32 a)) rfl (fun _ => rfl) ?_
          refine T_ld 55 (.int (i32 e)) rfl (fun _ => rfl) ?_
          refine T_icmp 62 58 rfl rfl rfl (r32 (by omega) (by omega)) (r32 (by omega) (by omega)) (fun (h135 : a ≠ e) => ?_) (fun (h135 : ¬ (a ≠ e)) => ?_)
          · skip
            refine T_ld 63 (.int (i32 0)) rfl (fun _ => rfl) ?_
            refine T_ld 65 (.int (i32 q)) rfl (fun _ => rfl) ?_
            refine T_call 68 256 [.ref 189, .int (i32 0), .int (i32 q)] [] rfl (fun _ => rfl) rfl (c_want w (mO m [(10, (m.1 10)), (11, (m.1 11))] []) c N D (by omega) (Ty_mO hT rfl rfl ⟨f10, f11, trivial⟩ trivial) 0 q ⟨by decide, by decide⟩ (r32 (by omega) (by omega)) (show 0 ≤ q ∧ q ≤ 4000 by omega) (fun (h : (m.1 10) = 0) => absurd h (by omega))) (fun rr136 k137 => ?_)
            obtain ⟨y138, y140, g139, g141, h142, c143, rfl⟩ := k137
            refine ⟨_, _, rfl, ?_⟩
            refine T_nf (st' := []) (l' := [(10, y138), (11, y140)]) (a' := []) rfl rfl rfl rfl rfl ?_
            replace h142 : y138 = 0 → (m.1 10) = 0 := h142
            have hf144 : 1 ≤ y138 := by omega
            clear c143
            clear h142
            refine T_ld 69 (.int (i32 a)) rfl (fun _ => rfl) ?_
            refine T_ret rfl (fun _ => rfl) ?_
            exact ⟨y138, y140, a, g139, g141, ⟨by omega, by omega⟩, (by omega), (by omega), (fun h => absurd h (by omega)), rfl⟩
          · skip
            refine T_ld 59 (.int (i32 1)) rfl (fun _ => rfl) ?_
            refine T_goto 63 rfl (fun _ => rfl) ?_
            refine T_ld 65 (.int (i32 q)) rfl (fun _ => rfl) ?_
            refine T_call 68 256 [.ref 189, .int (i32 1), .int (i32 q)] [] rfl (fun _ => rfl) rfl (c_want w (mO m [(10, (m.1 10)), (11, (m.1 11))] []) c N D (by omega) (Ty_mO hT rfl rfl ⟨f10, f11, trivial⟩ trivial) 1 q ⟨by decide, by decide⟩ (r32 (by omega) (by omega)) (show 0 ≤ q ∧ q ≤ 4000 by omega) (fun (h : (m.1 10) = 0) => absurd h (by omega))) (fun rr145 k146 => ?_)
            obtain ⟨y147, y149, g148, g150, h151, c152, rfl⟩ := k146
            refine ⟨_, _, rfl, ?_⟩
            refine T_nf (st' := []) (l' := [(10, y147), (11, y149)]) (a' := []) rfl rfl rfl rfl rfl ?_
            replace h151 : y147 = 0 → (m.1 10) = 0 := h151
            have hf153 : 1 ≤ y147 := by omega
            clear c152
            clear h151
            refine T_ld 69 (.int (i32 a)) rfl (fun _ => rfl) ?_
            refine T_ret rfl (fun _ => rfl) ?_
            exact ⟨y147, y149, a, g148, g150, ⟨by omega, by omega⟩, (by omega), (by omega), (fun h => absurd h (by omega)), rfl⟩
        · skip
          refine T_ld 17 (.ref 189) rfl (fun _ => rfl) ?_
          refine T_ld 18 (.long (i64 v)) rfl (fun _ => rfl) ?_
          refine T_ld 20 (.int (i32 e)) rfl (fun _ => rfl) ?_
          refine T_call 23 262 [.long (i64 v), .int (i32 e)] [.ref 189] rfl (fun _ => rfl) rfl (c_fits w (mO m [(10, (m.1 10)), (11, (m.1 11))] []) c N D (by omega) (Ty_mO hT rfl rfl ⟨f10, f11, trivial⟩ trivial) v e (r64 (by omega) (by omega)) (r32 (by omega) (by omega))) (fun rr154 k155 => ?_)
          obtain ⟨x156, g157, rfl⟩ := k155
          refine ⟨_, _, rfl, ?_⟩
          refine T_nf (st' := [.int (i32 x156), .ref 189]) (l' := [(10, (m.1 10)), (11, (m.1 11))]) (a' := []) rfl rfl rfl rfl rfl ?_
          obtain ⟨g157a, g157b⟩ := g157
          refine T_ld 25 (.int (i32 p)) rfl (fun _ => rfl) ?_
          refine T_call 28 256 [.ref 189, .int (i32 x156), .int (i32 p)] [] rfl (fun _ => rfl) rfl (c_want w (mO m [(10, (m.1 10)), (11, (m.1 11))] []) c N D (by omega) (Ty_mO hT rfl rfl ⟨f10, f11, trivial⟩ trivial) x156 p (r32 (by omega) (by omega)) (r32 (by omega) (by omega)) (show 0 ≤ p ∧ p ≤ 4000 by omega) (fun (h : (m.1 10) = 0) => absurd h (by omega))) (fun rr158 k159 => ?_)
          obtain ⟨y160, y162, g161, g163, h164, c165, rfl⟩ := k159
          refine ⟨_, _, rfl, ?_⟩
          refine T_nf (st' := []) (l' := [(10, y160), (11, y162)]) (a' := []) rfl rfl rfl rfl rfl ?_
          replace h164 : y160 = 0 → (m.1 10) = 0 := h164
          have hf166 : 1 ≤ y160 := by omega
          clear c165
          clear h164
          clear g157a g157b
          refine T_ld 30 (.int (i32 e)) rfl (fun _ => rfl) ?_
          refine T_ret rfl (fun _ => rfl) ?_
          exact ⟨y160, y162, e, g161, g163, ⟨by omega, by omega⟩, (by omega), (by omega), (fun h => absurd h (by omega)), rfl⟩
      · skip
        refine T_ld 11 (.int (i32 64)) rfl (fun _ => rfl) ?_
        refine T_ret rfl (fun _ => rfl) ?_
        exact ⟨(m.1 10), (m.1 11), 64, f10, f11, ⟨by omega, by omega⟩, (by omega), (by omega), (fun h => absurd h (by omega)), rfl⟩
def Q_unit (m : mR) (c : Nat → Option am_C) (N : Nat) (b : Int) (p : Int) : ag_Re af_T → Prop := fun R => ∃ (y69 : Int) (y70 : Int) (y71 : Int) (y72 : Int), (0 ≤ y69 ∧ y69 ≤ 1024) ∧ (0 ≤ y70 ∧ y70 ≤ 4000) ∧ (0 ≤ y71 ∧ y71 ≤ 1) ∧ ((-9223372036854775808) ≤ y72 ∧ y72 ≤ 9223372036854775807) ∧ (y69 = b) ∧ R = (.inl (none), (mhp (mO m [(69, y69), (70, y70), (71, y71), (72, y72)] []) c, N), 0, 0)
set_option maxHeartbeats 8000000 in
theorem c_unit (w : wX) (m : mR) (c : Nat → Option am_C) (N D : Nat) (hD : 1 ≤ D) (hT : Ty m) (b : Int) (p : Int) (qb : R32 b) (qp : R32 p) (p0 : 0 ≤ b ∧ b ≤ 1024) (p1 : 0 ≤ p ∧ p ≤ 4000) : TC w D 250 [.ref 189, .int (i32 b), .int (i32 p)] (mhp m c, N) (Q_unit m c N b p) := by
  obtain ⟨D, rfl⟩ : ∃ k, D = k + 1 := ⟨D - 1, by omega⟩
  obtain ⟨qba, qbb⟩ := id qb
  obtain ⟨qpa, qpb⟩ := id qp
  have f69 : 0 ≤ m.1 69 ∧ m.1 69 ≤ 1024 := hT.1 69
  have f70 : 0 ≤ m.1 70 ∧ m.1 70 ≤ 4000 := hT.1 70
  have f71 : 0 ≤ m.1 71 ∧ m.1 71 ≤ 1 := hT.1 71
  have f72 : (-9223372036854775808) ≤ m.1 72 ∧ m.1 72 ≤ 9223372036854775807 := hT.1 72
  refine Tc_of rfl ?_
  show TT w D pm_250 (0, [(0, .ref 189), (1, .int (i32 b)), (2, .int (i32 p))], [], (mhp m c, N), 0, 0) (Q_unit m c N b p)
  rw [show (mhp m c, N) = (mhp (mO m [(69, (m.1 69)), (70, (m.1 70)), (71, (m.1 71)), (72, (m.1 72))] []) c, N) from congrArg (fun M => (mhp M c, N)) (mO_pad m [69, 70, 71, 72] [])]
  refine T_ld 1 (.ref 189) rfl (fun _ => rfl) ?_
  refine T_ld 2 (.int (i32 b)) rfl (fun _ => rfl) ?_
  refine T_pf (l' := [(69, b), (70, (m.1 70)), (71, (m.1 71)), (72, (m.1 72))]) 5 b rfl rfl rfl rfl rfl rfl ?_
  have g1 : 0 ≤ b ∧ b ≤ 1024 := ⟨by omega, by omega⟩
  refine T_ld 6 (.ref 189) rfl (fun _ => rfl) ?_
  refine T_ld 7 (.int (i32 p)) rfl (fun _ => rfl) ?_
  refine T_pf (l' := [(69, b), (70, p), (71, (m.1 71)), (72, (m.1 72))]) 10 p rfl rfl rfl rfl rfl rfl ?_
  have g2 : 0 ≤ p ∧ p ≤ 4000 := ⟨by omega, by omega⟩
  refine T_ld 11 (.ref 189) rfl (fun _ => rfl) ?_
  refine T_ld 12 (.int (i32 0)) rfl (fun _ => rfl) ?_
  refine T_pf (l' := [(69, b), (70, p), (71, 0), (72, (m.1 72))]) 15 0 rfl rfl rfl rfl rfl rfl ?_
  refine T_ld 16 (.ref 189) rfl (fun _ => rfl) ?_
  refine T_ld 17 (.long (i64 0)) rfl (fun _ => rfl) ?_
  refine T_pf (l' := [(69, b), (70, p), (71, 0), (72, 0)]) 20 0 rfl rfl rfl rfl rfl rfl ?_
  refine T_ret rfl (fun _ => rfl) ?_
  exact ⟨b, p, 0, 0, g1, g2, ⟨by omega, by omega⟩, ⟨by omega, by omega⟩, (by omega), rfl⟩
def Q_open (m : mR) (c : Nat → Option am_C) (N : Nat) (k : Int) (p : Int) (s : Int) : ag_Re af_T → Prop := fun R => ∃ (y73 : Int) (F76 : Int → Int) (F77 : Int → Int) (F78 : Int → Int) (F79 : Int → Int) (F80 : Int → Int), (0 ≤ y73 ∧ y73 ≤ 60) ∧ (∀ j, 0 ≤ F76 j ∧ F76 j ≤ 2) ∧ (∀ j, 0 ≤ F77 j ∧ F77 j ≤ 4000) ∧ (∀ j, 0 ≤ F78 j ∧ F78 j ≤ 330) ∧ (∀ j, 0 ≤ F79 j ∧ F79 j ≤ 2) ∧ (∀ j, (-1) ≤ F80 j ∧ F80 j ≤ 330) ∧ (y73 = (m.1 73) + 1) ∧ (F76 = upI (m.2 76) (m.1 73) k) ∧ (F78 = upI (m.2 78) (m.1 73) s) ∧ (F79 = upI (m.2 79) (m.1 73) 0) ∧ (∀ j, j < 9 * (m.1 73) → F80 j = (m.2 80) j) ∧ (∀ j, 9 * (m.1 73) ≤ j → j < 9 * (m.1 73) + 9 → F80 j = -1) ∧ R = (.inl (none), (mhp (mO m [(73, y73)] [(76, F76), (77, F77), (78, F78), (79, F79), (80, F80)]) c, N), 0, 0)
set_option maxHeartbeats 8000000 in
theorem c_open (w : wX) (m : mR) (c : Nat → Option am_C) (N D : Nat) (hD : 1 ≤ D) (hT : Ty m) (k : Int) (p : Int) (s : Int) (qk : R32 k) (qp : R32 p) (qs : R32 s) (p0 : (m.1 73) ≤ 59) (p1 : 0 ≤ k ∧ k ≤ 2) (p2 : 0 ≤ p ∧ p ≤ 4000) (p3 : 0 ≤ s ∧ s ≤ 330) : TC w D 246 [.ref 189, .int (i32 k), .int (i32 p), .int (i32 s)] (mhp m c, N) (Q_open m c N k p s) := by
  obtain ⟨D, rfl⟩ : ∃ k, D = k + 1 := ⟨D - 1, by omega⟩
  obtain ⟨qka, qkb⟩ := id qk
  obtain ⟨qpa, qpb⟩ := id qp
  obtain ⟨qsa, qsb⟩ := id qs
  have f73 : 0 ≤ m.1 73 ∧ m.1 73 ≤ 60 := hT.1 73
  refine Tc_of rfl ?_
  show TT w D pm_246 (0, [(0, .ref 189), (1, .int (i32 k)), (2, .int (i32 p)), (3, .int (i32 s))], [], (mhp m c, N), 0, 0) (Q_open m c N k p s)
  rw [show (mhp m c, N) = (mhp (mO m [(73, (m.1 73))] [(76, (m.2 76)), (77, (m.2 77)), (78, (m.2 78)), (79, (m.2 79)), (80, (m.2 80))]) c, N) from congrArg (fun M => (mhp M c, N)) (mO_pad m [73] [76, 77, 78, 79, 80])]
  refine T_gf 4 (.ref 238) rfl rfl rfl rfl rfl rfl ?_
  refine T_gf 8 (.int (i32 (m.1 73))) rfl rfl rfl rfl rfl rfl ?_
  refine T_ld 9 (.int (i32 k)) rfl (fun _ => rfl) ?_
  have G1 : ∀ j, 0 ≤ (upI (m.2 76) (m.1 73) k) j ∧ (upI (m.2 76) (m.1 73) k) j ≤ 2 := upI_rg (hT.2.1 76) ⟨by omega, by omega⟩
  refine T_iast (a' := [(76, upI (m.2 76) (m.1 73) k), (77, (m.2 77)), (78, (m.2 78)), (79, (m.2 79)), (80, (m.2 80))]) 10 76 (m.2 76) rfl rfl rfl (by omega) (show (m.1 73) < (60 : Int) by omega) rfl rfl ?_
  refine T_gf 14 (.ref 239) rfl rfl rfl rfl rfl rfl ?_
  refine T_gf 18 (.int (i32 (m.1 73))) rfl rfl rfl rfl rfl rfl ?_
  refine T_ld 19 (.int (i32 p)) rfl (fun _ => rfl) ?_
  have G2 : ∀ j, 0 ≤ (upI (m.2 77) (m.1 73) p) j ∧ (upI (m.2 77) (m.1 73) p) j ≤ 4000 := upI_rg (hT.2.1 77) ⟨by omega, by omega⟩
  refine T_iast (a' := [(76, upI (m.2 76) (m.1 73) k), (77, upI (m.2 77) (m.1 73) p), (78, (m.2 78)), (79, (m.2 79)), (80, (m.2 80))]) 20 77 (m.2 77) rfl rfl rfl (by omega) (show (m.1 73) < (60 : Int) by omega) rfl rfl ?_
  refine T_gf 24 (.ref 240) rfl rfl rfl rfl rfl rfl ?_
  refine T_gf 28 (.int (i32 (m.1 73))) rfl rfl rfl rfl rfl rfl ?_
  refine T_ld 29 (.int (i32 s)) rfl (fun _ => rfl) ?_
  have G3 : ∀ j, 0 ≤ (upI (m.2 78) (m.1 73) s) j ∧ (upI (m.2 78) (m.1 73) s) j ≤ 330 := upI_rg (hT.2.1 78) ⟨by omega, by omega⟩
  refine T_iast (a' := [(76, upI (m.2 76) (m.1 73) k), (77, upI (m.2 77) (m.1 73) p), (78, upI (m.2 78) (m.1 73) s), (79, (m.2 79)), (80, (m.2 80))]) 30 78 (m.2 78) rfl rfl rfl (by omega) (show (m.1 73) < (60 : Int) by omega) rfl rfl ?_
  refine T_gf 34 (.ref 241) rfl rfl rfl rfl rfl rfl ?_
  refine T_gf 38 (.int (i32 (m.1 73))) rfl rfl rfl rfl rfl rfl ?_
  refine T_ld 39 (.int (i32 0)) rfl (fun _ => rfl) ?_
  have G4 : ∀ j, 0 ≤ (upI (m.2 79) (m.1 73) 0) j ∧ (upI (m.2 79) (m.1 73) 0) j ≤ 2 := upI_rg (hT.2.1 79) ⟨by omega, by omega⟩
  refine T_iast (a' := [(76, upI (m.2 76) (m.1 73) k), (77, upI (m.2 77) (m.1 73) p), (78, upI (m.2 78) (m.1 73) s), (79, upI (m.2 79) (m.1 73) 0), (80, (m.2 80))]) 40 79 (m.2 79) rfl rfl rfl (by omega) (show (m.1 73) < (60 : Int) by omega) rfl rfl ?_
  refine T_ld 41 (.int (i32 0)) rfl (fun _ => rfl) ?_
  refine T_sto 43 [(4, .int (i32 0)), (0, .ref 189), (1, .int (i32 k)), (2, .int (i32 p)), (3, .int (i32 s))] rfl (fun _ => rfl) ?_
  have L43_7 : ∀ (n : Nat) (v5 : Int) (F6 : Int → Int), (R32 v5) → (∀ j, (-1) ≤ F6 j ∧ F6 j ≤ 330) → (0 ≤ v5) → (v5 ≤ 9) → (∀ j, j < 9 * (m.1 73) → F6 j = (m.2 80) j) → (∀ j, 9 * (m.1 73) ≤ j → j < 9 * (m.1 73) + v5 → F6 j = -1) → 9 - v5 < (n : Int) → TT w D pm_246 (43, [(0, .ref 189), (1, .int (i32 k)), (2, .int (i32 p)), (3, .int (i32 s)), (4, .int (i32 v5))], [], (mhp (mO m [(73, (m.1 73))] [(76, upI (m.2 76) (m.1 73) k), (77, upI (m.2 77) (m.1 73) p), (78, upI (m.2 78) (m.1 73) s), (79, upI (m.2 79) (m.1 73) 0), (80, F6)]) c, N), 0, 0) (Q_open m c N k p s) := by
    intro n
    induction n with
    | zero =>
      intro v5 F6 q8 q9 ic10 ic11 ic12 ic13 hmu
      obtain ⟨q8a, q8b⟩ := id q8
      have hW1 := ic12
      have hW2 := ic13
      exfalso
      omega
    | succ n ih =>
      intro v5 F6 q8 q9 ic10 ic11 ic12 ic13 hmu
      obtain ⟨q8a, q8b⟩ := id q8
      have hW1 := ic12
      have hW2 := ic13
      have ih15 := ih
      refine T_ld 45 (.int (i32 v5)) rfl (fun _ => rfl) ?_
      refine T_ld 47 (.int (i32 9)) rfl (fun _ => rfl) ?_
      refine T_icmp 72 50 rfl rfl rfl (r32 (by omega) (by omega)) ⟨by decide, by decide⟩ (fun (h16 : (9 : Int) ≤ v5) => ?_) (fun (h16 : ¬ ((9 : Int) ≤ v5)) => ?_)
      · skip
        refine T_ld 73 (.ref 189) rfl (fun _ => rfl) ?_
        refine T_ld 74 (.ref 189) rfl (fun _ => rfl) ?_
        refine T_gf1 77 (.int (i32 (m.1 73))) rfl rfl rfl rfl ?_
        refine T_ld 78 (.int (i32 1)) rfl (fun _ => rfl) ?_
        refine T_iadd 79 rfl rfl ?_
        refine T_pf (l' := [(73, (m.1 73) + 1)]) 82 ((m.1 73) + 1) rfl rfl rfl rfl rfl rfl ?_
        have g17 : 0 ≤ (m.1 73) + 1 ∧ (m.1 73) + 1 ≤ 60 := ⟨by omega, by omega⟩
        refine T_ret rfl (fun _ => rfl) ?_
        exact ⟨(m.1 73) + 1, upI (m.2 76) (m.1 73) k, upI (m.2 77) (m.1 73) p, upI (m.2 78) (m.1 73) s, upI (m.2 79) (m.1 73) 0, F6, g17, G1, G2, G3, G4, q9, (by omega), (by rfl), (by rfl), (by rfl), (by first | (exact hW1) | (exfalso; omega)), (by first | (exact fun j h1 h2 => hW2 j h1 (by omega)) | (exfalso; omega)), rfl⟩
      · skip
        refine T_gf 54 (.ref 242) rfl rfl rfl rfl rfl rfl ?_
        refine T_ld 56 (.int (i32 9)) rfl (fun _ => rfl) ?_
        refine T_gf 60 (.int (i32 (m.1 73))) rfl rfl rfl rfl rfl rfl ?_
        refine T_imul 61 rfl rfl ?_
        refine T_ld 63 (.int (i32 v5)) rfl (fun _ => rfl) ?_
        refine T_iadd 64 rfl rfl ?_
        refine T_ld 65 (.int (i32 (-1))) rfl (fun _ => rfl) ?_
        have G18 : ∀ j, (-1) ≤ (upI F6 ((9 * (m.1 73)) + v5) (-1)) j ∧ (upI F6 ((9 * (m.1 73)) + v5) (-1)) j ≤ 330 := upI_rg q9 ⟨by omega, by omega⟩
        refine T_iast (a' := [(76, upI (m.2 76) (m.1 73) k), (77, upI (m.2 77) (m.1 73) p), (78, upI (m.2 78) (m.1 73) s), (79, upI (m.2 79) (m.1 73) 0), (80, upI F6 ((9 * (m.1 73)) + v5) (-1))]) 66 80 F6 rfl rfl rfl (by omega) (show ((9 * (m.1 73)) + v5) < (540 : Int) by omega) rfl rfl ?_
        refine T_iinc 69 [(4, .int (i32 (v5 + 1))), (0, .ref 189), (1, .int (i32 k)), (2, .int (i32 p)), (3, .int (i32 s))] rfl rfl (by decide) rfl rfl ?_
        refine T_goto 43 rfl (fun _ => rfl) ?_
        refine Tm_lv (a := [(0, .ref 189), (1, .int (i32 k)), (2, .int (i32 p)), (3, .int (i32 s)), (4, .int (i32 (v5 + 1)))]) rfl rfl ⟨rfl, rfl, rfl, rfl, rfl, trivial⟩ ?_
        exact ih15 (v5 + 1) (upI F6 ((9 * (m.1 73)) + v5) (-1)) (r32 (by omega) (by omega)) G18 (by omega) (by omega) (by first | exact fun j _ => rfl | exact fun j h1 => (upI_n (by omega)).trans (hW1 j h1)) (by first | (intro j h1 h2; omega) | (intro j h1 h2; by_cases e : j = 9 * (m.1 73) + v5; (rw [e, upI_s]); (rw [upI_n e]; exact hW2 j h1 (by omega)))) (by omega)
  refine Tm_lv (a := [(0, .ref 189), (1, .int (i32 k)), (2, .int (i32 p)), (3, .int (i32 s)), (4, .int (i32 0))]) rfl rfl ⟨rfl, rfl, rfl, rfl, rfl, trivial⟩ ?_
  exact L43_7 ((9 - 0 : Int) + 1).toNat 0 (m.2 80) ⟨by decide, by decide⟩ (hT.2.1 80) (by omega) (by omega) (by first | exact fun j _ => rfl | exact fun j h1 => (upI_n (by omega)).trans (hW1 j h1)) (by first | (intro j h1 h2; omega) | (intro j h1 h2; by_cases e : j = 9 * (m.1 73) + v5; (rw [e, upI_s]); (rw [upI_n e]; exact hW2 j h1 (by omega)))) (by omega)
def Q_beginChoice (m : mR) (c : Nat → Option am_C) (N : Nat) (B : Int) (U : Int) : ag_Re af_T → Prop := fun R => ∃ (y10 : Int) (y11 : Int) (y73 : Int) (y74 : Int) (y75 : Int) (F76 : Int → Int) (F77 : Int → Int) (F78 : Int → Int) (F79 : Int → Int) (F80 : Int → Int), (0 ≤ y10 ∧ y10 ≤ 8) ∧ ((-1) ≤ y11 ∧ y11 ≤ 4000) ∧ (0 ≤ y73 ∧ y73 ≤ 60) ∧ (0 ≤ y74 ∧ y74 ≤ 24) ∧ (0 ≤ y75 ∧ y75 ≤ 3) ∧ (∀ j, 0 ≤ F76 j ∧ F76 j ≤ 2) ∧ (∀ j, 0 ≤ F77 j ∧ F77 j ≤ 4000) ∧ (∀ j, 0 ≤ F78 j ∧ F78 j ≤ 330) ∧ (∀ j, 0 ≤ F79 j ∧ F79 j ≤ 2) ∧ (∀ j, (-1) ≤ F80 j ∧ F80 j ≤ 330) ∧ (y10 = 0 → (m.1 10) = 0) ∧ (y10 = 0 → (XS (m.2 65) (m.2 67) F76 F78 F79 F80 B (m.1 28) y73 y74 U) ∧ (y73 = (m.1 73) + 1) ∧ (y75 = 0)) ∧ R = (.inl (none), (mhp (mO m [(10, y10), (11, y11), (73, y73), (74, y74), (75, y75)] [(76, F76), (77, F77), (78, F78), (79, F79), (80, F80)]) c, N), 0, 0)
set_option maxHeartbeats 8000000 in
theorem c_beginChoice (w : wX) (m : mR) (c : Nat → Option am_C) (N D : Nat) (hD : 2 ≤ D) (hT : Ty m) (B : Int) (U : Int) (hC : m.1 10 = 0 → (XT (m.2 65) (m.2 67) (m.2 76) (m.2 78) (m.2 79) (m.2 80) B (m.1 28) (m.1 73) (m.1 74) U) ∧ ((m.1 73) = 0 ∨ (m.2 76) ((m.1 73) - 1) = 2 ∨ ((m.2 76) ((m.1 73) - 1) = 0 ∧ (m.2 79) ((m.1 73) - 1) = 2))) : TC w D 245 [.ref 189] (mhp m c, N) (Q_beginChoice m c N B U) := by
  obtain ⟨D, rfl⟩ : ∃ k, D = k + 1 := ⟨D - 1, by omega⟩
  have f10 : 0 ≤ m.1 10 ∧ m.1 10 ≤ 8 := hT.1 10
  have f11 : (-1) ≤ m.1 11 ∧ m.1 11 ≤ 4000 := hT.1 11
  have f73 : 0 ≤ m.1 73 ∧ m.1 73 ≤ 60 := hT.1 73
  have f74 : 0 ≤ m.1 74 ∧ m.1 74 ≤ 24 := hT.1 74
  have f75 : 0 ≤ m.1 75 ∧ m.1 75 ≤ 3 := hT.1 75
  have f28 : 0 ≤ m.1 28 ∧ m.1 28 ≤ 800 := hT.1 28
  refine Tc_of rfl ?_
  show TT w D pm_245 (0, [(0, .ref 189)], [], (mhp m c, N), 0, 0) (Q_beginChoice m c N B U)
  rw [show (mhp m c, N) = (mhp (mO m [(10, (m.1 10)), (11, (m.1 11)), (73, (m.1 73)), (74, (m.1 74)), (75, (m.1 75))] [(76, (m.2 76)), (77, (m.2 77)), (78, (m.2 78)), (79, (m.2 79)), (80, (m.2 80))]) c, N) from congrArg (fun M => (mhp M c, N)) (mO_pad m [10, 11, 73, 74, 75] [76, 77, 78, 79, 80])]
  by_cases hf0 : m.1 10 = 0
  · skip
    obtain ⟨hXT, hTop⟩ := hC hf0
    have hb := OS_hi hXT.2
    refine T_gf 4 (.int (i32 (m.1 10))) rfl rfl rfl rfl rfl rfl ?_
    refine T_if 8 7 rfl rfl rfl (r32 (by omega) (by omega)) (fun (h3 : (m.1 10) ≤ 0) => ?_) (fun (h3 : ¬ ((m.1 10) ≤ 0)) => by exfalso; omega)
    refine T_gf 12 (.int (i32 (m.1 74))) rfl rfl rfl rfl rfl rfl ?_
    refine T_ld 14 (.int (i32 24)) rfl (fun _ => rfl) ?_
    refine T_icmp 26 17 rfl rfl rfl (r32 (by omega) (by omega)) ⟨by decide, by decide⟩ (fun (h4 : (m.1 74) ≠ 24) => ?_) (fun (h4 : ¬ ((m.1 74) ≠ 24)) => ?_)
    · skip
      refine T_gf 30 (.int (i32 (m.1 10))) rfl rfl rfl rfl rfl rfl ?_
      refine T_if 34 33 rfl rfl rfl (r32 (by omega) (by omega)) (fun (h5 : (m.1 10) ≤ 0) => ?_) (fun (h5 : ¬ ((m.1 10) ≤ 0)) => by exfalso; omega)
      refine T_ld 35 (.ref 189) rfl (fun _ => rfl) ?_
      refine T_ld 36 (.ref 189) rfl (fun _ => rfl) ?_
      refine T_gf1 39 (.int (i32 (m.1 74))) rfl rfl rfl rfl ?_
      refine T_ld 40 (.int (i32 1)) rfl (fun _ => rfl) ?_
      refine T_iadd 41 rfl rfl ?_
      refine T_pf (l' := [(10, (m.1 10)), (11, (m.1 11)), (73, (m.1 73)), (74, (m.1 74) + 1), (75, (m.1 75))]) 44 ((m.1 74) + 1) rfl rfl rfl rfl rfl rfl ?_
      have g6 : 0 ≤ (m.1 74) + 1 ∧ (m.1 74) + 1 ≤ 24 := ⟨by omega, by omega⟩
      refine T_ld 45 (.ref 189) rfl (fun _ => rfl) ?_
      refine T_ld 46 (.int (i32 0)) rfl (fun _ => rfl) ?_
      have f8 : 0 ≤ m.1 8 ∧ m.1 8 ≤ 4000 := hT.1 8
      refine T_gf 50 (.int (i32 (m.1 8))) rfl rfl rfl rfl rfl rfl ?_
      refine T_ld 51 (.int (i32 0)) rfl (fun _ => rfl) ?_
      refine T_call 54 246 [.ref 189, .int (i32 0), .int (i32 (m.1 8)), .int (i32 0)] [] rfl (fun _ => rfl) rfl (c_open w (mO m [(10, (m.1 10)), (11, (m.1 11)), (73, (m.1 73)), (74, (m.1 74) + 1), (75, (m.1 75))] [(76, (m.2 76)), (77, (m.2 77)), (78, (m.2 78)), (79, (m.2 79)), (80, (m.2 80))]) c N D (by omega) (Ty_mO hT rfl rfl ⟨f10, f11, f73, g6, f75, trivial⟩ ⟨(hT.2.1 76), (hT.2.1 77), (hT.2.1 78), (hT.2.1 79), (hT.2.1 80), trivial⟩) 0 (m.1 8) 0 ⟨by decide, by decide⟩ (r32 (by omega) (by omega)) ⟨by decide, by decide⟩ (show (m.1 73) ≤ 59 by omega) (show 0 ≤ (0 : Int) ∧ (0 : Int) ≤ 2 by omega) (show 0 ≤ (m.1 8) ∧ (m.1 8) ≤ 4000 by omega) (show 0 ≤ (0 : Int) ∧ (0 : Int) ≤ 330 by omega)) (fun rr7 k8 => ?_)
      obtain ⟨y9, F11, F13, F15, F17, F19, g10, G12, G14, G16, G18, G20, h21, h22, h23, h24, h25, h26, rfl⟩ := k8
      refine ⟨_, _, rfl, ?_⟩
      refine T_nf (st' := []) (l' := [(10, (m.1 10)), (11, (m.1 11)), (73, y9), (74, (m.1 74) + 1), (75, (m.1 75))]) (a' := [(76, F11), (77, F13), (78, F15), (79, F17), (80, F19)]) rfl rfl rfl rfl rfl ?_
      replace h21 : y9 = (m.1 73) + 1 := h21
      have hO0 := h21
      replace h22 : F11 = upI (m.2 76) (m.1 73) (0 : Int) := h22
      have hO1 := h22
      replace h23 : F15 = upI (m.2 78) (m.1 73) (0 : Int) := h23
      have hO2 := h23
      replace h24 : F17 = upI (m.2 79) (m.1 73) 0 := h24
      have hO3 := h24
      replace h25 : ∀ j, j < 9 * (m.1 73) → F19 j = (m.2 80) j := h25
      have hW1 := h25
      replace h26 : ∀ j, 9 * (m.1 73) ≤ j → j < 9 * (m.1 73) + 9 → F19 j = -1 := h26
      have hW2 := h26
      refine T_ld 55 (.ref 189) rfl (fun _ => rfl) ?_
      refine T_ld 56 (.int (i32 0)) rfl (fun _ => rfl) ?_
      refine T_pf (l' := [(10, (m.1 10)), (11, (m.1 11)), (73, y9), (74, (m.1 74) + 1), (75, 0)]) 59 0 rfl rfl rfl rfl rfl rfl ?_
      refine T_ret rfl (fun _ => rfl) ?_
      exact ⟨(m.1 10), (m.1 11), y9, (m.1 74) + 1, 0, F11, F13, F15, F17, F19, f10, f11, g10, g6, ⟨by omega, by omega⟩, G12, G14, G16, G18, G20, (by omega), (fun _ => ⟨(by first | (rw [hO0, hO1, hO2, hO3]; exact XS_cho hXT hTop hW1 hW2) | (exfalso; omega)), (by omega), (by omega)⟩), rfl⟩
    · skip
      refine T_ld 18 (.ref 189) rfl (fun _ => rfl) ?_
      refine T_ld 19 (.int (i32 4)) rfl (fun _ => rfl) ?_
      have f8 : 0 ≤ m.1 8 ∧ m.1 8 ≤ 4000 := hT.1 8
      refine T_gf 23 (.int (i32 (m.1 8))) rfl rfl rfl rfl rfl rfl ?_
      refine T_call 26 222 [.ref 189, .int (i32 4), .int (i32 (m.1 8))] [] rfl (fun _ => rfl) rfl (c_wrong w (mO m [(10, (m.1 10)), (11, (m.1 11)), (73, (m.1 73)), (74, (m.1 74)), (75, (m.1 75))] [(76, (m.2 76)), (77, (m.2 77)), (78, (m.2 78)), (79, (m.2 79)), (80, (m.2 80))]) c N D (by omega) (Ty_mO hT rfl rfl ⟨f10, f11, f73, f74, f75, trivial⟩ ⟨(hT.2.1 76), (hT.2.1 77), (hT.2.1 78), (hT.2.1 79), (hT.2.1 80), trivial⟩) 4 (m.1 8) ⟨by decide, by decide⟩ (r32 (by omega) (by omega)) (show 1 ≤ (4 : Int) ∧ (4 : Int) ≤ 8 by omega) (show 0 ≤ (m.1 8) ∧ (m.1 8) ≤ 4000 by omega)) (fun rr27 k28 => ?_)
      obtain ⟨y29, y31, g30, g32, h33, rfl⟩ := k28
      refine ⟨_, _, rfl, ?_⟩
      refine T_nf (st' := []) (l' := [(10, y29), (11, y31), (73, (m.1 73)), (74, (m.1 74)), (75, (m.1 75))]) (a' := [(76, (m.2 76)), (77, (m.2 77)), (78, (m.2 78)), (79, (m.2 79)), (80, (m.2 80))]) rfl rfl rfl rfl rfl ?_
      replace h33 : (0 < (m.1 10) → y29 = (m.1 10) ∧ y31 = (m.1 11)) ∧ ((m.1 10) ≤ 0 → y29 = (4 : Int) ∧ y31 = (m.1 8)) := h33
      have hf34 : 1 ≤ y29 := by omega
      refine T_gf 30 (.int (i32 y29)) rfl rfl rfl rfl rfl rfl ?_
      refine T_if 34 33 rfl rfl rfl (r32 (by omega) (by omega)) (fun (h35 : y29 ≤ 0) => by exfalso; omega) (fun (h35 : ¬ (y29 ≤ 0)) => ?_)
      refine T_ret rfl (fun _ => rfl) ?_
      exact ⟨y29, y31, (m.1 73), (m.1 74), (m.1 75), (m.2 76), (m.2 77), (m.2 78), (m.2 79), (m.2 80), g30, g32, f73, f74, f75, (hT.2.1 76), (hT.2.1 77), (hT.2.1 78), (hT.2.1 79), (hT.2.1 80), (by omega), (fun h => absurd h (by omega)), rfl⟩
  · skip
    clear hC
    refine T_gf 4 (.int (i32 (m.1 10))) rfl rfl rfl rfl rfl rfl ?_
    refine T_if 8 7 rfl rfl rfl (r32 (by omega) (by omega)) (fun (h36 : (m.1 10) ≤ 0) => by exfalso; omega) (fun (h36 : ¬ ((m.1 10) ≤ 0)) => ?_)
    refine T_ret rfl (fun _ => rfl) ?_
    exact ⟨(m.1 10), (m.1 11), (m.1 73), (m.1 74), (m.1 75), (m.2 76), (m.2 77), (m.2 78), (m.2 79), (m.2 80), f10, f11, f73, f74, f75, (hT.2.1 76), (hT.2.1 77), (hT.2.1 78), (hT.2.1 79), (hT.2.1 80), (by omega), (fun h => absurd h (by omega)), rfl⟩
def Q_parameterHere (m : mR) (c : Nat → Option am_C) (N : Nat) : ag_Re af_T → Prop := fun R => ∃ (r : Int), ((-2147483648) ≤ r ∧ r ≤ 2147483647) ∧ (-1 ≤ r ∧ r ≤ 63) ∧ R = (.inl (some (.int (i32 r))), (mhp (mO m [] []) c, N), 0, 0)
set_option maxHeartbeats 8000000 in
theorem c_parameterHere (w : wX) (m : mR) (c : Nat → Option am_C) (N D : Nat) (hD : 2 ≤ D) (hT : Ty m) (p0 : 1 ≤ (m.1 9) ∧ (m.1 8) + (m.1 9) ≤ (m.1 6)) (p1 : ∀ k, (m.2 47) k + (m.2 48) k ≤ 4000) : TC w D 252 [.ref 189] (mhp m c, N) (Q_parameterHere m c N) := by
  obtain ⟨D, rfl⟩ : ∃ k, D = k + 1 := ⟨D - 1, by omega⟩
  have f8 : 0 ≤ m.1 8 ∧ m.1 8 ≤ 4000 := hT.1 8
  have f6 : 0 ≤ m.1 6 ∧ m.1 6 ≤ 4000 := hT.1 6
  have f9 : 0 ≤ m.1 9 ∧ m.1 9 ≤ 4000 := hT.1 9
  refine Tc_of rfl ?_
  show TT w D pm_252 (0, [(0, .ref 189)], [], (mhp m c, N), 0, 0) (Q_parameterHere m c N)
  rw [show (mhp m c, N) = (mhp (mO m [] []) c, N) from rfl]
  refine T_ld 1 (.int (i32 (-1))) rfl (fun _ => rfl) ?_
  refine T_sto 2 [(1, .int (i32 (-1))), (0, .ref 189)] rfl (fun _ => rfl) ?_
  have f64 : (-1) ≤ m.1 64 ∧ m.1 64 ≤ 15 := hT.1 64
  refine T_gf 6 (.int (i32 (m.1 64))) rfl rfl rfl rfl rfl rfl ?_
  refine T_if 63 9 rfl rfl rfl (r32 (by omega) (by omega)) (fun (h1 : (m.1 64) < 0) => ?_) (fun (h1 : ¬ ((m.1 64) < 0)) => ?_)
  · skip
    refine T_ld 64 (.int (i32 (-1))) rfl (fun _ => rfl) ?_
    refine T_ret rfl (fun _ => rfl) ?_
    exact ⟨(-1), ⟨by omega, by omega⟩, (by omega), rfl⟩
  · skip
    refine T_ld 10 (.int (i32 4)) rfl (fun _ => rfl) ?_
    refine T_gf 14 (.int (i32 (m.1 64))) rfl rfl rfl rfl rfl rfl ?_
    refine T_imul 15 rfl rfl ?_
    refine T_sto 16 [(2, .int (i32 (4 * (m.1 64)))), (1, .int (i32 (-1))), (0, .ref 189)] rfl (fun _ => rfl) ?_
    have e12 : 0 ≤ m.2 46 (m.1 64) ∧ m.2 46 (m.1 64) ≤ 4 := hT.2.1 46 (m.1 64)
    have L16_4 : ∀ (n : Nat) (v2 : Int) (v3 : Int), (R32 v2) → (R32 v3) → ((-1) ≤ v2) → (0 ≤ v3) → (v3 ≤ (4 * (m.1 64)) + ((m.2 46) (m.1 64))) → (v2 ≤ 63) → ((4 * (m.1 64)) + ((m.2 46) (m.1 64))) - v3 < (n : Int) → TT w D pm_252 (16, [(0, .ref 189), (1, .int (i32 v2)), (2, .int (i32 v3))], [], (mhp (mO m [] []) c, N), 0, 0) (Q_parameterHere m c N) := by
      intro n
      induction n with
      | zero =>
        intro v2 v3 q5 q6 ic7 ic8 ic9 ic10 hmu
        obtain ⟨q5a, q5b⟩ := id q5
        obtain ⟨q6a, q6b⟩ := id q6
        exfalso
        omega
      | succ n ih =>
        intro v2 v3 q5 q6 ic7 ic8 ic9 ic10 hmu
        obtain ⟨q5a, q5b⟩ := id q5
        obtain ⟨q6a, q6b⟩ := id q6
        have ih13 := ih
        refine T_ld 17 (.int (i32 v3)) rfl (fun _ => rfl) ?_
        refine T_ld 18 (.int (i32 4)) rfl (fun _ => rfl) ?_
        refine T_gf 22 (.int (i32 (m.1 64))) rfl rfl rfl rfl rfl rfl ?_
        refine T_imul 23 rfl rfl ?_
        refine T_gf 27 (.ref 216) rfl rfl rfl rfl rfl rfl ?_
        refine T_gf 31 (.int (i32 (m.1 64))) rfl rfl rfl rfl rfl rfl ?_
        refine T_iald 32 46 (m.2 46) rfl rfl rfl (by omega) (show (m.1 64) < (16 : Int) by omega) rfl ?_
        have e14 : 0 ≤ m.2 46 (m.1 64) ∧ m.2 46 (m.1 64) ≤ 4 := hT.2.1 46 (m.1 64)
        refine T_iadd 33 rfl rfl ?_
        refine T_icmp 63 36 rfl rfl rfl (r32 (by omega) (by omega)) (r32 (by omega) (by omega)) (fun (h15 : (4 * (m.1 64)) + ((m.2 46) (m.1 64)) ≤ v3) => ?_) (fun (h15 : ¬ ((4 * (m.1 64)) + ((m.2 46) (m.1 64)) ≤ v3)) => ?_)
        · skip
          refine T_ld 64 (.int (i32 v2)) rfl (fun _ => rfl) ?_
          refine T_ret rfl (fun _ => rfl) ?_
          exact ⟨v2, ⟨by omega, by omega⟩, (by omega), rfl⟩
        · skip
          have hp2 := p1 v3
          refine T_ld 37 (.ref 189) rfl (fun _ => rfl) ?_
          refine T_gf 41 (.ref 217) rfl rfl rfl rfl rfl rfl ?_
          refine T_ld 42 (.int (i32 v3)) rfl (fun _ => rfl) ?_
          refine T_iald 43 47 (m.2 47) rfl rfl rfl (by omega) (show v3 < (64 : Int) by omega) rfl ?_
          have e16 : 0 ≤ m.2 47 v3 ∧ m.2 47 v3 ≤ 4000 := hT.2.1 47 v3
          refine T_gf 47 (.ref 218) rfl rfl rfl rfl rfl rfl ?_
          refine T_ld 48 (.int (i32 v3)) rfl (fun _ => rfl) ?_
          refine T_iald 49 48 (m.2 48) rfl rfl rfl (by omega) (show v3 < (64 : Int) by omega) rfl ?_
          have e17 : 0 ≤ m.2 48 v3 ∧ m.2 48 v3 ≤ 4000 := hT.2.1 48 v3
          refine T_call 52 230 [.ref 189, .int (i32 ((m.2 47) v3)), .int (i32 ((m.2 48) v3))] [] rfl (fun _ => rfl) rfl (c_isHere w (mO m [] []) c N D (by omega) hT ((m.2 47) v3) ((m.2 48) v3) (r32 (by omega) (by omega)) (r32 (by omega) (by omega)) (show 0 ≤ ((m.2 47) v3) by omega) (show 0 ≤ ((m.2 48) v3) by omega) (show ((m.2 47) v3) + ((m.2 48) v3) ≤ 4000 by omega) (show 1 ≤ (m.1 9) ∧ (m.1 8) + (m.1 9) ≤ (m.1 6) by first | omega | (have h8 := hLx (by omega); omega))) (fun rr18 k19 => ?_)
          obtain ⟨x20, g21, h22, rfl⟩ := k19
          refine ⟨_, _, rfl, ?_⟩
          refine T_nf (st' := [.int (i32 x20)]) (l' := []) (a' := []) rfl rfl rfl rfl rfl ?_
          obtain ⟨g21a, g21b⟩ := g21
          replace h22 : (x20 = 1 ∧ sameN (m.2 4) (m.1 8) (m.1 9) ((m.2 47) v3) ((m.2 48) v3)) ∨ (x20 = 0 ∧ ¬ sameN (m.2 4) (m.1 8) (m.1 9) ((m.2 47) v3) ((m.2 48) v3)) := h22
          have hh := h22
          refine T_if 57 55 rfl rfl rfl (r32 (by omega) (by omega)) (fun (h23 : x20 = 0) => ?_) (fun (h23 : ¬ (x20 = 0)) => ?_)
          · skip
            refine T_iinc 60 [(2, .int (i32 (v3 + 1))), (0, .ref 189), (1, .int (i32 v2))] rfl rfl (by decide) rfl rfl ?_
            refine T_goto 16 rfl (fun _ => rfl) ?_
            refine Tm_lv (a := [(0, .ref 189), (1, .int (i32 v2)), (2, .int (i32 (v3 + 1)))]) rfl rfl ⟨rfl, rfl, rfl, trivial⟩ ?_
            exact ih13 v2 (v3 + 1) (r32 (by omega) (by omega)) (r32 (by omega) (by omega)) (by omega) (by omega) (by omega) (by omega) (by omega)
          · skip
            refine T_ld 56 (.int (i32 v3)) rfl (fun _ => rfl) ?_
            refine T_sto 57 [(1, .int (i32 v3)), (0, .ref 189), (2, .int (i32 v3))] rfl (fun _ => rfl) ?_
            refine T_iinc 60 [(2, .int (i32 (v3 + 1))), (1, .int (i32 v3)), (0, .ref 189)] rfl rfl (by decide) rfl rfl ?_
            refine T_goto 16 rfl (fun _ => rfl) ?_
            refine Tm_lv (a := [(0, .ref 189), (1, .int (i32 v3)), (2, .int (i32 (v3 + 1)))]) rfl rfl ⟨rfl, rfl, rfl, trivial⟩ ?_
            exact ih13 v3 (v3 + 1) (r32 (by omega) (by omega)) (r32 (by omega) (by omega)) (by omega) (by omega) (by omega) (by omega) (by omega)
    refine Tm_lv (a := [(0, .ref 189), (1, .int (i32 (-1))), (2, .int (i32 (4 * (m.1 64))))]) rfl rfl ⟨rfl, rfl, rfl, trivial⟩ ?_
    exact L16_4 ((((4 * (m.1 64)) + ((m.2 46) (m.1 64))) - (4 * (m.1 64)) : Int) + 1).toNat (-1) (4 * (m.1 64)) ⟨by decide, by decide⟩ (r32 (by omega) (by omega)) (by omega) (by omega) (by omega) (by omega) (by omega)
def Q_bitsOfField (m : mR) (c : Nat → Option am_C) (N : Nat) (f : Int) : ag_Re af_T → Prop := fun R => ∃ (r : Int), (0 ≤ r ∧ r ≤ 64) ∧ R = (.inl (some (.int (i32 r))), (mhp (mO m [] []) c, N), 0, 0)
set_option maxHeartbeats 8000000 in
theorem c_bitsOfField (w : wX) (m : mR) (c : Nat → Option am_C) (N D : Nat) (hD : 1 ≤ D) (hT : Ty m) (f : Int) (qf : R32 f) (p0 : 0 ≤ f ∧ f ≤ 191) : TC w D 254 [.ref 189, .int (i32 f)] (mhp m c, N) (Q_bitsOfField m c N f) := by
  obtain ⟨D, rfl⟩ : ∃ k, D = k + 1 := ⟨D - 1, by omega⟩
  obtain ⟨qfa, qfb⟩ := id qf
  refine Tc_of rfl ?_
  show TT w D pm_254 (0, [(0, .ref 189), (1, .int (i32 f))], [], (mhp m c, N), 0, 0) (Q_bitsOfField m c N f)
  rw [show (mhp m c, N) = (mhp (mO m [] []) c, N) from rfl]
  refine T_gf 4 (.ref 203) rfl rfl rfl rfl rfl rfl ?_
  refine T_ld 6 (.int (i32 16)) rfl (fun _ => rfl) ?_
  refine T_gf 10 (.ref 204) rfl rfl rfl rfl rfl rfl ?_
  refine T_ld 11 (.int (i32 f)) rfl (fun _ => rfl) ?_
  refine T_ld 13 (.int (i32 16)) rfl (fun _ => rfl) ?_
  refine T_idiv 14 rfl rfl (by omega) (by omega) (by omega) (by omega) ?_
  refine T_iald 15 34 (m.2 34) rfl rfl rfl (by omega) (show (f / 16) < (12 : Int) by omega) rfl ?_
  have e1 : 0 ≤ m.2 34 (f / 16) ∧ m.2 34 (f / 16) ≤ 11 := hT.2.1 34 (f / 16)
  refine T_imul 16 rfl rfl ?_
  refine T_ld 17 (.int (i32 f)) rfl (fun _ => rfl) ?_
  refine T_ld 19 (.int (i32 16)) rfl (fun _ => rfl) ?_
  refine T_irem 20 rfl rfl (by omega) (by omega) (by omega) (by omega) ?_
  refine T_iadd 21 rfl rfl ?_
  refine T_iald 22 33 (m.2 33) rfl rfl rfl (by omega) (show ((16 * ((m.2 34) (f / 16))) + (f % 16)) < (192 : Int) by omega) rfl ?_
  have e2 : 0 ≤ m.2 33 ((16 * ((m.2 34) (f / 16))) + (f % 16)) ∧ m.2 33 ((16 * ((m.2 34) (f / 16))) + (f % 16)) ≤ 64 := hT.2.1 33 ((16 * ((m.2 34) (f / 16))) + (f % 16))
  refine T_ret rfl (fun _ => rfl) ?_
  exact ⟨(m.2 33) ((16 * ((m.2 34) (f / 16))) + (f % 16)), ⟨by omega, by omega⟩, rfl⟩
def Q_takeField (m : mR) (c : Nat → Option am_C) (N : Nat) (i : Int) : ag_Re af_T → Prop := fun R => ∃ (y7 : Int) (y8 : Int) (y9 : Int) (y10 : Int) (y11 : Int) (y12 : Int) (r : Int), (0 ≤ y7 ∧ y7 ≤ 330) ∧ (0 ≤ y8 ∧ y8 ≤ 4000) ∧ (0 ≤ y9 ∧ y9 ≤ 4000) ∧ (0 ≤ y10 ∧ y10 ≤ 8) ∧ ((-1) ≤ y11 ∧ y11 ≤ 4000) ∧ ((-9223372036854775808) ≤ y12 ∧ y12 ≤ 9223372036854775807) ∧ (0 ≤ r ∧ r ≤ 191) ∧ (y10 = 0 → (m.1 10) = 0) ∧ (LxP y7 y8 y9 (m.1 6) y10) ∧ (y10 = 0 → ((m.1 8) + 1 ≤ y8) ∧ ((m.1 7) = 1)) ∧ R = (.inl (some (.int (i32 r))), (mhp (mO m [(7, y7), (8, y8), (9, y9), (10, y10), (11, y11), (12, y12)] []) c, N), 0, 0)
set_option maxHeartbeats 8000000 in
theorem c_takeField (w : wX) (m : mR) (c : Nat → Option am_C) (N D : Nat) (hD : 6 ≤ D) (hT : Ty m) (i : Int) (qi : R32 i) (hLx0 : LxP (m.1 7) (m.1 8) (m.1 9) (m.1 6) (m.1 10)) (hFA0 : ∀ k, (m.2 31) k + (m.2 32) k ≤ 4000) (p2 : 0 ≤ i ∧ i ≤ 11) (hC : m.1 10 = 0 → True) : TC w D 253 [.ref 189, .int (i32 i)] (mhp m c, N) (Q_takeField m c N i) := by
  obtain ⟨D, rfl⟩ : ∃ k, D = k + 1 := ⟨D - 1, by omega⟩
  obtain ⟨qia, qib⟩ := id qi
  have hLx := hLx0
  have hFA := hFA0
  have f7 : 0 ≤ m.1 7 ∧ m.1 7 ≤ 330 := hT.1 7
  have f8 : 0 ≤ m.1 8 ∧ m.1 8 ≤ 4000 := hT.1 8
  have f9 : 0 ≤ m.1 9 ∧ m.1 9 ≤ 4000 := hT.1 9
  have f10 : 0 ≤ m.1 10 ∧ m.1 10 ≤ 8 := hT.1 10
  have f11 : (-1) ≤ m.1 11 ∧ m.1 11 ≤ 4000 := hT.1 11
  have f12 : (-9223372036854775808) ≤ m.1 12 ∧ m.1 12 ≤ 9223372036854775807 := hT.1 12
  have f6 : 0 ≤ m.1 6 ∧ m.1 6 ≤ 4000 := hT.1 6
  refine Tc_of rfl ?_
  show TT w D pm_253 (0, [(0, .ref 189), (1, .int (i32 i))], [], (mhp m c, N), 0, 0) (Q_takeField m c N i)
  rw [show (mhp m c, N) = (mhp (mO m [(7, (m.1 7)), (8, (m.1 8)), (9, (m.1 9)), (10, (m.1 10)), (11, (m.1 11)), (12, (m.1 12))] []) c, N) from congrArg (fun M => (mhp M c, N)) (mO_pad m [7, 8, 9, 10, 11, 12] [])]
  by_cases hf0 : m.1 10 = 0
  · skip
    have h7 := hLx (by omega)
    have J115_23 : ∀ (v15 : Int) (v16 : Int) (y17 : Int) (y18 : Int) (y19 : Int) (y20 : Int) (y21 : Int) (y22 : Int), (R32 v15) → (R32 v16) → (0 ≤ y17 ∧ y17 ≤ 330) → (0 ≤ y18 ∧ y18 ≤ 4000) → (0 ≤ y19 ∧ y19 ≤ 4000) → (0 ≤ y20 ∧ y20 ≤ 8) → ((-1) ≤ y21 ∧ y21 ≤ 4000) → ((-9223372036854775808) ≤ y22 ∧ y22 ≤ 9223372036854775807) → (0 ≤ v15) → (0 ≤ v16) → (1 ≤ y20) → (y20 ≤ 8) → (0 ≤ v15 - 16 * ((m.2 34) i) ∧ v15 - 16 * ((m.2 34) i) ≤ 15) → (0 ≤ ((m.2 34) i) ∧ ((m.2 34) i) ≤ 11) → TT w D pm_253 (115, [(0, .ref 189), (1, .int (i32 i)), (2, .int (i32 ((m.2 34) i))), (3, .int (i32 v15)), (4, .int (i32 v16))], [], (mhp (mO m [(7, y17), (8, y18), (9, y19), (10, y20), (11, y21), (12, y22)] []) c, N), 0, 0) (Q_takeField m c N i) := by
      intro v15 v16 y17 y18 y19 y20 y21 y22 q24 q25 q26 q27 q28 q29 q30 q31 ic32 ic33 ic34 ic35 ic36 ic37
      obtain ⟨q24a, q24b⟩ := id q24
      obtain ⟨q25a, q25b⟩ := id q25
      refine T_ld 117 (.int (i32 16)) rfl (fun _ => rfl) ?_
      refine T_ld 118 (.int (i32 i)) rfl (fun _ => rfl) ?_
      refine T_imul 119 rfl rfl ?_
      refine T_ld 120 (.int (i32 v15)) rfl (fun _ => rfl) ?_
      refine T_iadd 121 rfl rfl ?_
      refine T_ld 123 (.int (i32 16)) rfl (fun _ => rfl) ?_
      refine T_ld 124 (.int (i32 ((m.2 34) i))) rfl (fun _ => rfl) ?_
      refine T_imul 125 rfl rfl ?_
      refine T_isub 126 rfl rfl ?_
      refine T_ret rfl (fun _ => rfl) ?_
      exact ⟨y17, y18, y19, y20, y21, y22, ((16 * i) + v15) - (16 * ((m.2 34) i)), q26, q27, q28, q29, q30, q31, ⟨by omega, by omega⟩, (by omega), (by first | (first | exact hLx | (intro h9; exfalso; omega)) | (exfalso; omega)), (fun h => absurd h (by omega)), rfl⟩
    have J102_43 : ∀ (v39 : Int) (v40 : Int) (y41 : Int) (y42 : Int), (R32 v39) → (R32 v40) → (0 ≤ y41 ∧ y41 ≤ 8) → ((-1) ≤ y42 ∧ y42 ≤ 4000) → ((-1) ≤ v39) → (v39 ≤ (-1)) → (0 ≤ v40) → (1 ≤ y41) → (y41 ≤ 8) → (0 ≤ ((m.2 34) i) ∧ ((m.2 34) i) ≤ 11) → TT w D pm_253 (102, [(0, .ref 189), (1, .int (i32 i)), (2, .int (i32 ((m.2 34) i))), (3, .int (i32 v39)), (4, .int (i32 v40))], [], (mhp (mO m [(7, (m.1 7)), (8, (m.1 8)), (9, (m.1 9)), (10, y41), (11, y42), (12, (m.1 12))] []) c, N), 0, 0) (Q_takeField m c N i) := by
      intro v39 v40 y41 y42 q44 q45 q46 q47 ic48 ic49 ic50 ic51 ic52 ic53
      obtain ⟨q44a, q44b⟩ := id q44
      obtain ⟨q45a, q45b⟩ := id q45
      refine T_gf 106 (.int (i32 y41)) rfl rfl rfl rfl rfl rfl ?_
      refine T_if 111 109 rfl rfl rfl (r32 (by omega) (by omega)) (fun (h55 : y41 ≤ 0) => by exfalso; omega) (fun (h55 : ¬ (y41 ≤ 0)) => ?_)
      refine T_ld 110 (.int (i32 0)) rfl (fun _ => rfl) ?_
      refine T_ret rfl (fun _ => rfl) ?_
      exact ⟨(m.1 7), (m.1 8), (m.1 9), y41, y42, (m.1 12), 0, f7, f8, f9, q46, q47, f12, ⟨by omega, by omega⟩, (by omega), (by first | (first | exact hLx | (intro h9; exfalso; omega)) | (exfalso; omega)), (fun h => absurd h (by omega)), rfl⟩
    refine T_gf 4 (.int (i32 (m.1 10))) rfl rfl rfl rfl rfl rfl ?_
    refine T_if 9 7 rfl rfl rfl (r32 (by omega) (by omega)) (fun (h56 : (m.1 10) ≤ 0) => ?_) (fun (h56 : ¬ ((m.1 10) ≤ 0)) => by exfalso; omega)
    refine T_gf 13 (.ref 204) rfl rfl rfl rfl rfl rfl ?_
    refine T_ld 14 (.int (i32 i)) rfl (fun _ => rfl) ?_
    refine T_iald 15 34 (m.2 34) rfl rfl rfl (by omega) (show i < (12 : Int) by omega) rfl ?_
    have e57 : 0 ≤ m.2 34 i ∧ m.2 34 i ≤ 11 := hT.2.1 34 i
    refine T_sto 16 [(2, .int (i32 ((m.2 34) i))), (0, .ref 189), (1, .int (i32 i))] rfl (fun _ => rfl) ?_
    refine T_ld 17 (.int (i32 (-1))) rfl (fun _ => rfl) ?_
    refine T_sto 18 [(3, .int (i32 (-1))), (2, .int (i32 ((m.2 34) i))), (0, .ref 189), (1, .int (i32 i))] rfl (fun _ => rfl) ?_
    refine T_gf 22 (.int (i32 (m.1 7))) rfl rfl rfl rfl rfl rfl ?_
    refine T_ld 23 (.int (i32 1)) rfl (fun _ => rfl) ?_
    refine T_icmp 32 26 rfl rfl rfl (r32 (by omega) (by omega)) ⟨by decide, by decide⟩ (fun (h58 : (m.1 7) = 1) => ?_) (fun (h58 : ¬ ((m.1 7) = 1)) => ?_)
    · skip
      refine T_ld 34 (.int (i32 16)) rfl (fun _ => rfl) ?_
      refine T_ld 35 (.int (i32 ((m.2 34) i))) rfl (fun _ => rfl) ?_
      refine T_imul 36 rfl rfl ?_
      refine T_sto 38 [(4, .int (i32 (16 * ((m.2 34) i)))), (3, .int (i32 (-1))), (2, .int (i32 ((m.2 34) i))), (0, .ref 189), (1, .int (i32 i))] rfl (fun _ => rfl) ?_
      have e72 : 0 ≤ m.2 29 ((m.2 34) i) ∧ m.2 29 ((m.2 34) i) ≤ 16 := hT.2.1 29 ((m.2 34) i)
      have L38_61 : ∀ (n : Nat) (v59 : Int) (v60 : Int), (R32 v59) → (R32 v60) → ((-1) ≤ v59) → (0 ≤ v60) → (v60 ≤ (16 * ((m.2 34) i)) + ((m.2 29) ((m.2 34) i))) → ((-1) ≤ v59) → (v59 < v60) → (16 * ((m.2 34) i) ≤ v60) → (v59 = -1 ∨ 16 * ((m.2 34) i) ≤ v59) → ((16 * ((m.2 34) i)) + ((m.2 29) ((m.2 34) i))) - v60 < (n : Int) → TT w D pm_253 (38, [(0, .ref 189), (1, .int (i32 i)), (2, .int (i32 ((m.2 34) i))), (3, .int (i32 v59)), (4, .int (i32 v60))], [], (mhp (mO m [(7, (m.1 7)), (8, (m.1 8)), (9, (m.1 9)), (10, (m.1 10)), (11, (m.1 11)), (12, (m.1 12))] []) c, N), 0, 0) (Q_takeField m c N i) := by
        intro n
        induction n with
        | zero =>
          intro v59 v60 q62 q63 ic64 ic65 ic66 ic67 ic68 ic69 ic70 hmu
          obtain ⟨q62a, q62b⟩ := id q62
          obtain ⟨q63a, q63b⟩ := id q63
          exfalso
          omega
        | succ n ih =>
          intro v59 v60 q62 q63 ic64 ic65 ic66 ic67 ic68 ic69 ic70 hmu
          obtain ⟨q62a, q62b⟩ := id q62
          obtain ⟨q63a, q63b⟩ := id q63
          have ih73 := ih
          refine T_ld 40 (.int (i32 v60)) rfl (fun _ => rfl) ?_
          refine T_ld 42 (.int (i32 16)) rfl (fun _ => rfl) ?_
          refine T_ld 43 (.int (i32 ((m.2 34) i))) rfl (fun _ => rfl) ?_
          refine T_imul 44 rfl rfl ?_
          refine T_gf 48 (.ref 199) rfl rfl rfl rfl rfl rfl ?_
          refine T_ld 49 (.int (i32 ((m.2 34) i))) rfl (fun _ => rfl) ?_
          refine T_iald 50 29 (m.2 29) rfl rfl rfl (by omega) (show ((m.2 34) i) < (12 : Int) by omega) rfl ?_
          have e74 : 0 ≤ m.2 29 ((m.2 34) i) ∧ m.2 29 ((m.2 34) i) ≤ 16 := hT.2.1 29 ((m.2 34) i)
          refine T_iadd 51 rfl rfl ?_
          refine T_icmp 88 54 rfl rfl rfl (r32 (by omega) (by omega)) (r32 (by omega) (by omega)) (fun (h75 : (16 * ((m.2 34) i)) + ((m.2 29) ((m.2 34) i)) ≤ v60) => ?_) (fun (h75 : ¬ ((16 * ((m.2 34) i)) + ((m.2 29) ((m.2 34) i)) ≤ v60)) => ?_)
          · skip
            refine T_ld 89 (.int (i32 v59)) rfl (fun _ => rfl) ?_
            refine T_if 102 92 rfl rfl rfl (r32 (by omega) (by omega)) (fun (h76 : (0 : Int) ≤ v59) => ?_) (fun (h76 : ¬ ((0 : Int) ≤ v59)) => ?_)
            · skip
              refine T_gf 106 (.int (i32 (m.1 10))) rfl rfl rfl rfl rfl rfl ?_
              refine T_if 111 109 rfl rfl rfl (r32 (by omega) (by omega)) (fun (h77 : (m.1 10) ≤ 0) => ?_) (fun (h77 : ¬ ((m.1 10) ≤ 0)) => by exfalso; omega)
              refine T_ld 112 (.ref 189) rfl (fun _ => rfl) ?_
              refine T_call 115 212 [.ref 189] [] rfl (fun _ => rfl) rfl (c_next w (mO m [(7, (m.1 7)), (8, (m.1 8)), (9, (m.1 9)), (10, (m.1 10)), (11, (m.1 11)), (12, (m.1 12))] []) c N D (by omega) (Ty_mO hT rfl rfl ⟨f7, f8, f9, f10, f11, f12, trivial⟩ trivial) (show (m.1 10) = 0 → (m.1 8) + (m.1 9) ≤ (m.1 6) by first | omega | (intro h9; have h8 := hLx h9; omega))) (fun rr78 k79 => ?_)
              obtain ⟨y80, y82, y84, y86, y88, y90, g81, g83, g85, g87, g89, g91, h92, h93, h94, h95, rfl⟩ := k79
              refine ⟨_, _, rfl, ?_⟩
              refine T_nf (st' := []) (l' := [(7, y80), (8, y82), (9, y84), (10, y86), (11, y88), (12, y90)]) (a' := []) rfl rfl rfl rfl rfl ?_
              by_cases hf96 : y86 = 0
              · skip
                subst hf96
                replace h92 : LxP y80 y82 y84 (m.1 6) (0 : Int) := h92
                have hLx := h92
                replace h93 : (m.1 10) = 0 := h93 rfl
                replace h94 : (m.1 8) ≤ y82 := h94
                replace h95 : (m.1 8) + (m.1 9) ≤ y82 := h95 rfl
                have u97 : (m.1 8) + 1 ≤ y82 := by omega
                clear g87
                refine T_ld 117 (.int (i32 16)) rfl (fun _ => rfl) ?_
                refine T_ld 118 (.int (i32 i)) rfl (fun _ => rfl) ?_
                refine T_imul 119 rfl rfl ?_
                refine T_ld 120 (.int (i32 v59)) rfl (fun _ => rfl) ?_
                refine T_iadd 121 rfl rfl ?_
                refine T_ld 123 (.int (i32 16)) rfl (fun _ => rfl) ?_
                refine T_ld 124 (.int (i32 ((m.2 34) i))) rfl (fun _ => rfl) ?_
                refine T_imul 125 rfl rfl ?_
                refine T_isub 126 rfl rfl ?_
                refine T_ret rfl (fun _ => rfl) ?_
                exact ⟨y80, y82, y84, 0, y88, y90, ((16 * i) + v59) - (16 * ((m.2 34) i)), g81, g83, g85, ⟨by omega, by omega⟩, g89, g91, ⟨by omega, by omega⟩, (by omega), (by first | (first | exact hLx | (intro h9; exfalso; omega)) | (exfalso; omega)), (fun _ => ⟨(by omega), (by omega)⟩), rfl⟩
              · skip
                replace h92 : LxP y80 y82 y84 (m.1 6) y86 := h92
                have hLx := h92
                clear h93
                replace h94 : (m.1 8) ≤ y82 := h94
                clear h95
                have hf98 : 1 ≤ y86 := by omega
                exact J115_23 v59 v60 y80 y82 y84 y86 y88 y90 (r32 (by omega) (by omega)) (r32 (by omega) (by omega)) g81 g83 g85 g87 g89 g91 (by omega) (by omega) (by omega) (by omega) (by omega) (by omega)
            · skip
              refine T_ld 93 (.ref 189) rfl (fun _ => rfl) ?_
              refine T_ld 95 (.int (i32 6)) rfl (fun _ => rfl) ?_
              refine T_gf 99 (.int (i32 (m.1 8))) rfl rfl rfl rfl rfl rfl ?_
              refine T_call 102 222 [.ref 189, .int (i32 6), .int (i32 (m.1 8))] [] rfl (fun _ => rfl) rfl (c_wrong w (mO m [(7, (m.1 7)), (8, (m.1 8)), (9, (m.1 9)), (10, (m.1 10)), (11, (m.1 11)), (12, (m.1 12))] []) c N D (by omega) (Ty_mO hT rfl rfl ⟨f7, f8, f9, f10, f11, f12, trivial⟩ trivial) 6 (m.1 8) ⟨by decide, by decide⟩ (r32 (by omega) (by omega)) (show 1 ≤ (6 : Int) ∧ (6 : Int) ≤ 8 by omega) (show 0 ≤ (m.1 8) ∧ (m.1 8) ≤ 4000 by omega)) (fun rr99 k100 => ?_)
              obtain ⟨y101, y103, g102, g104, h105, rfl⟩ := k100
              refine ⟨_, _, rfl, ?_⟩
              refine T_nf (st' := []) (l' := [(7, (m.1 7)), (8, (m.1 8)), (9, (m.1 9)), (10, y101), (11, y103), (12, (m.1 12))]) (a' := []) rfl rfl rfl rfl rfl ?_
              replace h105 : (0 < (m.1 10) → y101 = (m.1 10) ∧ y103 = (m.1 11)) ∧ ((m.1 10) ≤ 0 → y101 = (6 : Int) ∧ y103 = (m.1 8)) := h105
              have hf106 : 1 ≤ y101 := by omega
              exact J102_43 v59 v60 y101 y103 (r32 (by omega) (by omega)) (r32 (by omega) (by omega)) g102 g104 (by omega) (by omega) (by omega) (by omega) (by omega) (by omega)
          · skip
            have hp3 := hFA v60
            have h7 := hLx (by omega)
            refine T_ld 55 (.ref 189) rfl (fun _ => rfl) ?_
            refine T_gf 59 (.ref 201) rfl rfl rfl rfl rfl rfl ?_
            refine T_ld 61 (.int (i32 v60)) rfl (fun _ => rfl) ?_
            refine T_iald 62 31 (m.2 31) rfl rfl rfl (by omega) (show v60 < (192 : Int) by omega) rfl ?_
            have e107 : 0 ≤ m.2 31 v60 ∧ m.2 31 v60 ≤ 4000 := hT.2.1 31 v60
            refine T_gf 66 (.ref 202) rfl rfl rfl rfl rfl rfl ?_
            refine T_ld 68 (.int (i32 v60)) rfl (fun _ => rfl) ?_
            refine T_iald 69 32 (m.2 32) rfl rfl rfl (by omega) (show v60 < (192 : Int) by omega) rfl ?_
            have e108 : 0 ≤ m.2 32 v60 ∧ m.2 32 v60 ≤ 4000 := hT.2.1 32 v60
            refine T_call 72 230 [.ref 189, .int (i32 ((m.2 31) v60)), .int (i32 ((m.2 32) v60))] [] rfl (fun _ => rfl) rfl (c_isHere w (mO m [(7, (m.1 7)), (8, (m.1 8)), (9, (m.1 9)), (10, (m.1 10)), (11, (m.1 11)), (12, (m.1 12))] []) c N D (by omega) (Ty_mO hT rfl rfl ⟨f7, f8, f9, f10, f11, f12, trivial⟩ trivial) ((m.2 31) v60) ((m.2 32) v60) (r32 (by omega) (by omega)) (r32 (by omega) (by omega)) (show 0 ≤ ((m.2 31) v60) by omega) (show 0 ≤ ((m.2 32) v60) by omega) (show ((m.2 31) v60) + ((m.2 32) v60) ≤ 4000 by omega) (show 1 ≤ (m.1 9) ∧ (m.1 8) + (m.1 9) ≤ (m.1 6) by first | omega | (have h8 := hLx (by omega); omega))) (fun rr109 k110 => ?_)
            obtain ⟨x111, g112, h113, rfl⟩ := k110
            refine ⟨_, _, rfl, ?_⟩
            refine T_nf (st' := [.int (i32 x111)]) (l' := [(7, (m.1 7)), (8, (m.1 8)), (9, (m.1 9)), (10, (m.1 10)), (11, (m.1 11)), (12, (m.1 12))]) (a' := []) rfl rfl rfl rfl rfl ?_
            obtain ⟨g112a, g112b⟩ := g112
            replace h113 : (x111 = 1 ∧ sameN (m.2 4) (m.1 8) (m.1 9) ((m.2 31) v60) ((m.2 32) v60)) ∨ (x111 = 0 ∧ ¬ sameN (m.2 4) (m.1 8) (m.1 9) ((m.2 31) v60) ((m.2 32) v60)) := h113
            have hh := h113
            have u114 : (m.1 8) ≤ (m.1 8) := by omega
            refine T_if 80 75 rfl rfl rfl (r32 (by omega) (by omega)) (fun (h115 : x111 = 0) => ?_) (fun (h115 : ¬ (x111 = 0)) => ?_)
            · skip
              refine T_ld 81 (.int (i32 v59)) rfl (fun _ => rfl) ?_
              refine T_sto 82 [(3, .int (i32 v59)), (0, .ref 189), (1, .int (i32 i)), (2, .int (i32 ((m.2 34) i))), (4, .int (i32 v60))] rfl (fun _ => rfl) ?_
              refine T_iinc 85 [(4, .int (i32 (v60 + 1))), (3, .int (i32 v59)), (0, .ref 189), (1, .int (i32 i)), (2, .int (i32 ((m.2 34) i)))] rfl rfl (by decide) rfl rfl ?_
              refine T_goto 38 rfl (fun _ => rfl) ?_
              refine Tm_lv (a := [(0, .ref 189), (1, .int (i32 i)), (2, .int (i32 ((m.2 34) i))), (3, .int (i32 v59)), (4, .int (i32 (v60 + 1)))]) rfl rfl ⟨rfl, rfl, rfl, rfl, rfl, trivial⟩ ?_
              exact ih73 v59 (v60 + 1) (r32 (by omega) (by omega)) (r32 (by omega) (by omega)) (by omega) (by omega) (by omega) (by omega) (by omega) (by omega) (by omega) (by omega)
            · skip
              refine T_ld 77 (.int (i32 v60)) rfl (fun _ => rfl) ?_
              refine T_goto 81 rfl (fun _ => rfl) ?_
              refine T_sto 82 [(3, .int (i32 v60)), (0, .ref 189), (1, .int (i32 i)), (2, .int (i32 ((m.2 34) i))), (4, .int (i32 v60))] rfl (fun _ => rfl) ?_
              refine T_iinc 85 [(4, .int (i32 (v60 + 1))), (3, .int (i32 v60)), (0, .ref 189), (1, .int (i32 i)), (2, .int (i32 ((m.2 34) i)))] rfl rfl (by decide) rfl rfl ?_
              refine T_goto 38 rfl (fun _ => rfl) ?_
              refine Tm_lv (a := [(0, .ref 189), (1, .int (i32 i)), (2, .int (i32 ((m.2 34) i))), (3, .int (i32 v60)), (4, .int (i32 (v60 + 1)))]) rfl rfl ⟨rfl, rfl, rfl, rfl, rfl, trivial⟩ ?_
              exact ih73 v60 (v60 + 1) (r32 (by omega) (by omega)) (r32 (by omega) (by omega)) (by omega) (by omega) (by omega) (by omega) (by omega) (by omega) (by omega) (by omega)
      refine Tm_lv (a := [(0, .ref 189), (1, .int (i32 i)), (2, .int (i32 ((m.2 34) i))), (3, .int (i32 (-1))), (4, .int (i32 (16 * ((m.2 34) i))))]) rfl rfl ⟨rfl, rfl, rfl, rfl, rfl, trivial⟩ ?_
      exact L38_61 ((((16 * ((m.2 34) i)) + ((m.2 29) ((m.2 34) i))) - (16 * ((m.2 34) i)) : Int) + 1).toNat (-1) (16 * ((m.2 34) i)) ⟨by decide, by decide⟩ (r32 (by omega) (by omega)) (by omega) (by omega) (by omega) (by omega) (by omega) (by omega) (by omega) (by omega)
    · skip
      refine T_ld 27 (.ref 189) rfl (fun _ => rfl) ?_
      refine T_call 30 226 [.ref 189] [] rfl (fun _ => rfl) rfl (c_bad w (mO m [(7, (m.1 7)), (8, (m.1 8)), (9, (m.1 9)), (10, (m.1 10)), (11, (m.1 11)), (12, (m.1 12))] []) c N D (by omega) (Ty_mO hT rfl rfl ⟨f7, f8, f9, f10, f11, f12, trivial⟩ trivial) ) (fun rr116 k117 => ?_)
      obtain ⟨y118, y120, g119, g121, h122, rfl⟩ := k117
      refine ⟨_, _, rfl, ?_⟩
      refine T_nf (st' := []) (l' := [(7, (m.1 7)), (8, (m.1 8)), (9, (m.1 9)), (10, y118), (11, y120), (12, (m.1 12))]) (a' := []) rfl rfl rfl rfl rfl ?_
      replace h122 : (0 < (m.1 10) → y118 = (m.1 10) ∧ y120 = (m.1 11)) ∧ ((m.1 10) ≤ 0 → y118 = 1 ∧ y120 = (m.1 8)) := h122
      have hf123 : 1 ≤ y118 := by omega
      refine T_ld 31 (.int (i32 0)) rfl (fun _ => rfl) ?_
      refine T_ret rfl (fun _ => rfl) ?_
      exact ⟨(m.1 7), (m.1 8), (m.1 9), y118, y120, (m.1 12), 0, f7, f8, f9, g119, g121, f12, ⟨by omega, by omega⟩, (by omega), (by first | (first | exact hLx | (intro h9; exfalso; omega)) | (exfalso; omega)), (fun h => absurd h (by omega)), rfl⟩
  · skip
    clear hC
    refine T_gf 4 (.int (i32 (m.1 10))) rfl rfl rfl rfl rfl rfl ?_
    refine T_if 9 7 rfl rfl rfl (r32 (by omega) (by omega)) (fun (h124 : (m.1 10) ≤ 0) => by exfalso; omega) (fun (h124 : ¬ ((m.1 10) ≤ 0)) => ?_)
    refine T_ld 8 (.int (i32 0)) rfl (fun _ => rfl) ?_
    refine T_ret rfl (fun _ => rfl) ?_
    exact ⟨(m.1 7), (m.1 8), (m.1 9), (m.1 10), (m.1 11), (m.1 12), 0, f7, f8, f9, f10, f11, f12, ⟨by omega, by omega⟩, (by omega), (by first | (first | exact hLx | (intro h9; exfalso; omega)) | (exfalso; omega)), (fun h => absurd h (by omega)), rfl⟩
def Q_atom (m : mR) (c : Nat → Option am_C) (N : Nat) (b : Int) (p : Int) : ag_Re af_T → Prop := fun R => ∃ (y69 : Int) (y70 : Int) (y71 : Int) (y72 : Int) (y75 : Int), (0 ≤ y69 ∧ y69 ≤ 1024) ∧ (0 ≤ y70 ∧ y70 ≤ 4000) ∧ (0 ≤ y71 ∧ y71 ≤ 1) ∧ ((-9223372036854775808) ≤ y72 ∧ y72 ≤ 9223372036854775807) ∧ (0 ≤ y75 ∧ y75 ≤ 3) ∧ ((m.1 10) = 0 → y75 = 1 ∧ y69 = b) ∧ R = (.inl (none), (mhp (mO m [(69, y69), (70, y70), (71, y71), (72, y72), (75, y75)] []) c, N), 0, 0)
set_option maxHeartbeats 8000000 in
theorem c_atom (w : wX) (m : mR) (c : Nat → Option am_C) (N D : Nat) (hD : 2 ≤ D) (hT : Ty m) (b : Int) (p : Int) (qb : R32 b) (qp : R32 p) (p0 : 0 ≤ b ∧ b ≤ 64) (p1 : 0 ≤ p ∧ p ≤ 4000) : TC w D 249 [.ref 189, .int (i32 b), .int (i32 p)] (mhp m c, N) (Q_atom m c N b p) := by
  obtain ⟨D, rfl⟩ : ∃ k, D = k + 1 := ⟨D - 1, by omega⟩
  obtain ⟨qba, qbb⟩ := id qb
  obtain ⟨qpa, qpb⟩ := id qp
  have f69 : 0 ≤ m.1 69 ∧ m.1 69 ≤ 1024 := hT.1 69
  have f70 : 0 ≤ m.1 70 ∧ m.1 70 ≤ 4000 := hT.1 70
  have f71 : 0 ≤ m.1 71 ∧ m.1 71 ≤ 1 := hT.1 71
  have f72 : (-9223372036854775808) ≤ m.1 72 ∧ m.1 72 ≤ 9223372036854775807 := hT.1 72
  have f75 : 0 ≤ m.1 75 ∧ m.1 75 ≤ 3 := hT.1 75
  have f10 : 0 ≤ m.1 10 ∧ m.1 10 ≤ 8 := hT.1 10
  refine Tc_of rfl ?_
  show TT w D pm_249 (0, [(0, .ref 189), (1, .int (i32 b)), (2, .int (i32 p))], [], (mhp m c, N), 0, 0) (Q_atom m c N b p)
  rw [show (mhp m c, N) = (mhp (mO m [(69, (m.1 69)), (70, (m.1 70)), (71, (m.1 71)), (72, (m.1 72)), (75, (m.1 75))] []) c, N) from congrArg (fun M => (mhp M c, N)) (mO_pad m [69, 70, 71, 72, 75] [])]
  refine T_gf 4 (.int (i32 (m.1 10))) rfl rfl rfl rfl rfl rfl ?_
  refine T_if 8 7 rfl rfl rfl (r32 (by omega) (by omega)) (fun (h1 : (m.1 10) ≤ 0) => ?_) (fun (h1 : ¬ ((m.1 10) ≤ 0)) => ?_)
  · skip
    refine T_ld 9 (.ref 189) rfl (fun _ => rfl) ?_
    refine T_ld 10 (.int (i32 b)) rfl (fun _ => rfl) ?_
    refine T_ld 11 (.int (i32 p)) rfl (fun _ => rfl) ?_
    refine T_call 14 250 [.ref 189, .int (i32 b), .int (i32 p)] [] rfl (fun _ => rfl) rfl (c_unit w (mO m [(69, (m.1 69)), (70, (m.1 70)), (71, (m.1 71)), (72, (m.1 72)), (75, (m.1 75))] []) c N D (by omega) (Ty_mO hT rfl rfl ⟨f69, f70, f71, f72, f75, trivial⟩ trivial) b p (r32 (by omega) (by omega)) (r32 (by omega) (by omega)) (show 0 ≤ b ∧ b ≤ 1024 by omega) (show 0 ≤ p ∧ p ≤ 4000 by omega)) (fun rr2 k3 => ?_)
    obtain ⟨y4, y6, y8, y10, g5, g7, g9, g11, h12, rfl⟩ := k3
    refine ⟨_, _, rfl, ?_⟩
    refine T_nf (st' := []) (l' := [(69, y4), (70, y6), (71, y8), (72, y10), (75, (m.1 75))]) (a' := []) rfl rfl rfl rfl rfl ?_
    replace h12 : y4 = b := h12
    refine T_ld 15 (.ref 189) rfl (fun _ => rfl) ?_
    refine T_ld 16 (.int (i32 1)) rfl (fun _ => rfl) ?_
    refine T_pf (l' := [(69, y4), (70, y6), (71, y8), (72, y10), (75, 1)]) 19 1 rfl rfl rfl rfl rfl rfl ?_
    refine T_ret rfl (fun _ => rfl) ?_
    exact ⟨y4, y6, y8, y10, 1, g5, g7, g9, g11, ⟨by omega, by omega⟩, (by omega), rfl⟩
  · skip
    refine T_ret rfl (fun _ => rfl) ?_
    exact ⟨(m.1 69), (m.1 70), (m.1 71), (m.1 72), (m.1 75), f69, f70, f71, f72, f75, (by omega), rfl⟩
