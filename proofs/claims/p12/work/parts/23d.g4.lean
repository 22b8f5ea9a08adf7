def Q_takeName (m : mR) (c : Nat → Option am_C) (N : Nat) (p : Int) (B : Int) (h : Int) : ag_Re af_T → Prop := fun R => ∃ (M : mR), Ty M ∧ ((M.1 10) = 0 → (m.1 10) = 0) ∧ (LxP (M.1 7) (M.1 8) (M.1 9) (m.1 6) (M.1 10)) ∧ (M.1 10 = 0 → ((m.1 8) + 1 ≤ (M.1 8)) ∧ ((M.1 75) = 1) ∧ ((M.1 69) ≤ 64) ∧ ((M.1 28) = (m.1 28) + 1) ∧ (EX (M.2 65) (M.2 67) B (M.1 28) (h + 1)) ∧ (agr (m.2 65) (M.2 65) (m.1 28))) ∧ R = (.inl (none), (mhp (mO m [(7, (M.1 7)), (8, (M.1 8)), (9, (M.1 9)), (10, (M.1 10)), (11, (M.1 11)), (12, (M.1 12)), (28, (M.1 28)), (69, (M.1 69)), (70, (M.1 70)), (71, (M.1 71)), (72, (M.1 72)), (75, (M.1 75))] [(65, (M.2 65)), (66, (M.2 66)), (67, (M.2 67)), (68, (M.2 68))]) c, N), 0, 0)
set_option maxHeartbeats 8000000 in
theorem c_takeName (w : wX) (m : mR) (c : Nat → Option am_C) (N D : Nat) (hD : 7 ≤ D) (hT : Ty m) (p : Int) (B : Int) (h : Int) (qp : R32 p) (hLx0 : LxP (m.1 7) (m.1 8) (m.1 9) (m.1 6) (m.1 10)) (hNM0 : ∀ k, (m.2 14) k + (m.2 15) k ≤ 4000) (hFA0 : ∀ k, (m.2 31) k + (m.2 32) k ≤ 4000) (hPA0 : ∀ k, (m.2 47) k + (m.2 48) k ≤ 4000) (p4 : 0 ≤ p ∧ p ≤ 4000) (hf0 : m.1 10 = 0) (hC : (PN (m.1 13) (m.1 19) (m.1 20) (m.1 21) (m.1 22) (m.1 23) (m.1 25) (m.1 26) (m.2 16) (m.2 17)) ∧ ((m.1 7) = 1) ∧ (EX (m.2 65) (m.2 67) B (m.1 28) h) ∧ (0 ≤ h)) : TC w D 251 [.ref 189, .int (i32 p)] (mhp m c, N) (Q_takeName m c N p B h) := by
  obtain ⟨D, rfl⟩ : ∃ k, D = k + 1 := ⟨D - 1, by omega⟩
  obtain ⟨qpa, qpb⟩ := id qp
  have hLx := hLx0
  have hNM := hNM0
  have hFA := hFA0
  have hPA := hPA0
  have f7 : 0 ≤ m.1 7 ∧ m.1 7 ≤ 330 := hT.1 7
  have f8 : 0 ≤ m.1 8 ∧ m.1 8 ≤ 4000 := hT.1 8
  have f9 : 0 ≤ m.1 9 ∧ m.1 9 ≤ 4000 := hT.1 9
  have f10 : 0 ≤ m.1 10 ∧ m.1 10 ≤ 8 := hT.1 10
  have f11 : (-1) ≤ m.1 11 ∧ m.1 11 ≤ 4000 := hT.1 11
  have f12 : (-9223372036854775808) ≤ m.1 12 ∧ m.1 12 ≤ 9223372036854775807 := hT.1 12
  have f28 : 0 ≤ m.1 28 ∧ m.1 28 ≤ 800 := hT.1 28
  have f69 : 0 ≤ m.1 69 ∧ m.1 69 ≤ 1024 := hT.1 69
  have f70 : 0 ≤ m.1 70 ∧ m.1 70 ≤ 4000 := hT.1 70
  have f71 : 0 ≤ m.1 71 ∧ m.1 71 ≤ 1 := hT.1 71
  have f72 : (-9223372036854775808) ≤ m.1 72 ∧ m.1 72 ≤ 9223372036854775807 := hT.1 72
  have f75 : 0 ≤ m.1 75 ∧ m.1 75 ≤ 3 := hT.1 75
  have f25 : 0 ≤ m.1 25 ∧ m.1 25 ≤ 16 := hT.1 25
  have f22 : 0 ≤ m.1 22 ∧ m.1 22 ≤ 8 := hT.1 22
  have f19 : 0 ≤ m.1 19 ∧ m.1 19 ≤ 12 := hT.1 19
  have f20 : 0 ≤ m.1 20 ∧ m.1 20 ≤ 12 := hT.1 20
  have f21 : 0 ≤ m.1 21 ∧ m.1 21 ≤ 16 := hT.1 21
  have f13 : 0 ≤ m.1 13 ∧ m.1 13 ≤ 120 := hT.1 13
  have f6 : 0 ≤ m.1 6 ∧ m.1 6 ≤ 4000 := hT.1 6
  have f23 : 0 ≤ m.1 23 ∧ m.1 23 ≤ 16 := hT.1 23
  have f26 : 0 ≤ m.1 26 ∧ m.1 26 ≤ 8 := hT.1 26
  refine Tc_of rfl ?_
  show TT w D pm_251 (0, [(0, .ref 189), (1, .int (i32 p))], [], (mhp m c, N), 0, 0) (Q_takeName m c N p B h)
  rw [show (mhp m c, N) = (mhp (mO m [(7, (m.1 7)), (8, (m.1 8)), (9, (m.1 9)), (10, (m.1 10)), (11, (m.1 11)), (12, (m.1 12)), (28, (m.1 28)), (69, (m.1 69)), (70, (m.1 70)), (71, (m.1 71)), (72, (m.1 72)), (75, (m.1 75))] [(65, (m.2 65)), (66, (m.2 66)), (67, (m.2 67)), (68, (m.2 68))]) c, N) from congrArg (fun M => (mhp M c, N)) (mO_pad m [7, 8, 9, 10, 11, 12, 28, 69, 70, 71, 72, 75] [65, 66, 67, 68])]
  obtain ⟨pPN, c1, hEX, c2⟩ := hC
  have h7 := hLx (by omega)
  have pmt := pPN.2.1
  have J150_41 : ∀ (v35 : Int) (v36 : Int) (v37 : Int) (v38 : Int) (v39 : Int) (m40 : mR), (R32 v35) → (R32 v36) → (R32 v37) → (R32 v38) → (R32 v39) → (Ty m40) → ((-2147483648) ≤ v35) → (v35 ≤ 2147483647) → (0 ≤ v37) → (v37 ≤ 64) → (401 ≤ v38) → (v38 ≤ 403) → (1 ≤ (m40.1 10)) → ((m40.1 10) ≤ 8) → TT w D pm_251 (150, [(0, .ref 189), (1, .int (i32 p)), (2, .int (i32 v35)), (3, .int (i32 v36)), (4, .int (i32 v37)), (5, .int (i32 v38)), (6, .int (i32 v39))], [], (mhp (mO m [(7, (m40.1 7)), (8, (m40.1 8)), (9, (m40.1 9)), (10, (m40.1 10)), (11, (m40.1 11)), (12, (m40.1 12)), (28, (m40.1 28)), (69, (m.1 69)), (70, (m.1 70)), (71, (m.1 71)), (72, (m.1 72)), (75, (m.1 75))] [(65, (m40.2 65)), (66, (m40.2 66)), (67, (m40.2 67)), (68, (m40.2 68))]) c, N), 0, 0) (Q_takeName m c N p B h) := by
    intro v35 v36 v37 v38 v39 m40 q42 q43 q44 q45 q46 q47 ic48 ic49 ic50 ic51 ic52 ic53 ic54 ic55
    obtain ⟨q42a, q42b⟩ := id q42
    obtain ⟨q43a, q43b⟩ := id q43
    obtain ⟨q44a, q44b⟩ := id q44
    obtain ⟨q45a, q45b⟩ := id q45
    obtain ⟨q46a, q46b⟩ := id q46
    have q47_7 : 0 ≤ m40.1 7 ∧ m40.1 7 ≤ 330 := q47.1 7
    have q47_8 : 0 ≤ m40.1 8 ∧ m40.1 8 ≤ 4000 := q47.1 8
    have q47_9 : 0 ≤ m40.1 9 ∧ m40.1 9 ≤ 4000 := q47.1 9
    have q47_10 : 0 ≤ m40.1 10 ∧ m40.1 10 ≤ 8 := q47.1 10
    have q47_11 : (-1) ≤ m40.1 11 ∧ m40.1 11 ≤ 4000 := q47.1 11
    have q47_12 : (-9223372036854775808) ≤ m40.1 12 ∧ m40.1 12 ≤ 9223372036854775807 := q47.1 12
    have q47_28 : 0 ≤ m40.1 28 ∧ m40.1 28 ≤ 800 := q47.1 28
    refine T_ld 151 (.ref 189) rfl (fun _ => rfl) ?_
    refine T_ld 153 (.int (i32 v37)) rfl (fun _ => rfl) ?_
    refine T_ld 154 (.int (i32 p)) rfl (fun _ => rfl) ?_
    refine T_call 157 249 [.ref 189, .int (i32 v37), .int (i32 p)] [] rfl (fun _ => rfl) rfl (c_atom w (mO m [(7, (m40.1 7)), (8, (m40.1 8)), (9, (m40.1 9)), (10, (m40.1 10)), (11, (m40.1 11)), (12, (m40.1 12)), (28, (m40.1 28)), (69, (m.1 69)), (70, (m.1 70)), (71, (m.1 71)), (72, (m.1 72)), (75, (m.1 75))] [(65, (m40.2 65)), (66, (m40.2 66)), (67, (m40.2 67)), (68, (m40.2 68))]) c N D (by omega) (Ty_mO hT rfl rfl ⟨(q47.1 7), (q47.1 8), (q47.1 9), (q47.1 10), (q47.1 11), (q47.1 12), (q47.1 28), f69, f70, f71, f72, f75, trivial⟩ ⟨(q47.2.1 65), (q47.2.1 66), (q47.2.1 67), (q47.2.1 68), trivial⟩) v37 p (r32 (by omega) (by omega)) (r32 (by omega) (by omega)) (show 0 ≤ v37 ∧ v37 ≤ 64 by omega) (show 0 ≤ p ∧ p ≤ 4000 by omega)) (fun rr57 k58 => ?_)
    obtain ⟨m59, hT60, h61, rfl⟩ := k58
    refine ⟨_, _, rfl, ?_⟩
    refine T_nf2 (st' := []) (l' := [(7, (m40.1 7)), (8, (m40.1 8)), (9, (m40.1 9)), (10, (m40.1 10)), (11, (m40.1 11)), (12, (m40.1 12)), (28, (m40.1 28)), (69, (m59.1 69)), (70, (m59.1 70)), (71, (m59.1 71)), (72, (m59.1 72)), (75, (m59.1 75))]) (a' := [(65, (m40.2 65)), (66, (m40.2 66)), (67, (m40.2 67)), (68, (m40.2 68))]) [69, 70, 71, 72, 75] [] rfl ⟨rfl, rfl, rfl, rfl, rfl, rfl, rfl, rfl, rfl, rfl, rfl, rfl, rfl, rfl, rfl, rfl, rfl, rfl, rfl, rfl, rfl, rfl, rfl, rfl, rfl, rfl, rfl, rfl, rfl, rfl, rfl, trivial⟩ ⟨rfl, rfl, rfl, rfl, rfl, rfl, rfl, rfl, trivial⟩ rfl rfl (by decide) (by decide) ?_
    have g62 : 0 ≤ m59.1 69 ∧ m59.1 69 ≤ 1024 := hT60.1 69
    have g63 : 0 ≤ m59.1 70 ∧ m59.1 70 ≤ 4000 := hT60.1 70
    have g64 : 0 ≤ m59.1 71 ∧ m59.1 71 ≤ 1 := hT60.1 71
    have g65 : (-9223372036854775808) ≤ m59.1 72 ∧ m59.1 72 ≤ 9223372036854775807 := hT60.1 72
    have g66 : 0 ≤ m59.1 75 ∧ m59.1 75 ≤ 3 := hT60.1 75
    replace h61 : (m40.1 10) = 0 → (m59.1 75) = 1 ∧ (m59.1 69) = v37 := h61
    refine T_ret rfl (fun _ => rfl) ?_
    exact ⟨(mO m [(7, (m40.1 7)), (8, (m40.1 8)), (9, (m40.1 9)), (10, (m40.1 10)), (11, (m40.1 11)), (12, (m40.1 12)), (28, (m40.1 28)), (69, (m59.1 69)), (70, (m59.1 70)), (71, (m59.1 71)), (72, (m59.1 72)), (75, (m59.1 75))] [(65, (m40.2 65)), (66, (m40.2 66)), (67, (m40.2 67)), (68, (m40.2 68))]), (Ty_mO hT rfl rfl ⟨(q47.1 7), (q47.1 8), (q47.1 9), (q47.1 10), (q47.1 11), (q47.1 12), (q47.1 28), (hT60.1 69), (hT60.1 70), (hT60.1 71), (hT60.1 72), (hT60.1 75), trivial⟩ ⟨(q47.2.1 65), (q47.2.1 66), (q47.2.1 67), (q47.2.1 68), trivial⟩), (show (m40.1 10) = 0 → (m.1 10) = 0 by omega), (show LxP (m40.1 7) (m40.1 8) (m40.1 9) (m.1 6) (m40.1 10) by first | (first | exact hLx | exact (fun _ => hLx (by omega)) | (intro h9; exfalso; omega)) | (exfalso; omega)), (fun (h : (m40.1 10) = 0) => absurd h (by omega)), rfl⟩
  have J109_72 : ∀ (v67 : Int) (v68 : Int) (v69 : Int) (s70 : Int) (m71 : mR), (R32 v67) → (R32 v68) → (R32 v69) → (R32 s70) → (Ty m71) → ((-2147483648) ≤ v67) → (v67 ≤ (-1)) → (2 ≤ v68) → (v68 ≤ 2) → (0 ≤ s70) → (s70 ≤ 191) → (1 ≤ (m71.1 10)) → ((m71.1 10) ≤ 8) → TT w D pm_251 (109, [(0, .ref 189), (1, .int (i32 p)), (2, .int (i32 v67)), (3, .int (i32 v68)), (4, .int (i32 1)), (5, .int (i32 401)), (6, .int (i32 v69))], [.int (i32 s70)], (mhp (mO m [(7, (m71.1 7)), (8, (m71.1 8)), (9, (m71.1 9)), (10, (m71.1 10)), (11, (m71.1 11)), (12, (m71.1 12)), (28, (m.1 28)), (69, (m.1 69)), (70, (m.1 70)), (71, (m.1 71)), (72, (m.1 72)), (75, (m.1 75))] [(65, (m.2 65)), (66, (m.2 66)), (67, (m.2 67)), (68, (m.2 68))]) c, N), 0, 0) (Q_takeName m c N p B h) := by
    intro v67 v68 v69 s70 m71 q73 q74 q75 q76 q77 ic78 ic79 ic80 ic81 ic82 ic83 ic84 ic85
    obtain ⟨q73a, q73b⟩ := id q73
    obtain ⟨q74a, q74b⟩ := id q74
    obtain ⟨q75a, q75b⟩ := id q75
    obtain ⟨q76a, q76b⟩ := id q76
    have q77_7 : 0 ≤ m71.1 7 ∧ m71.1 7 ≤ 330 := q77.1 7
    have q77_8 : 0 ≤ m71.1 8 ∧ m71.1 8 ≤ 4000 := q77.1 8
    have q77_9 : 0 ≤ m71.1 9 ∧ m71.1 9 ≤ 4000 := q77.1 9
    have q77_10 : 0 ≤ m71.1 10 ∧ m71.1 10 ≤ 8 := q77.1 10
    have q77_11 : (-1) ≤ m71.1 11 ∧ m71.1 11 ≤ 4000 := q77.1 11
    have q77_12 : (-9223372036854775808) ≤ m71.1 12 ∧ m71.1 12 ≤ 9223372036854775807 := q77.1 12
    refine T_sto 111 [(6, .int (i32 s70)), (0, .ref 189), (1, .int (i32 p)), (2, .int (i32 v67)), (3, .int (i32 v68)), (4, .int (i32 1)), (5, .int (i32 401))] rfl (fun _ => rfl) ?_
    refine T_gf 115 (.int (i32 (m71.1 10))) rfl rfl rfl rfl rfl rfl ?_
    refine T_if 139 118 rfl rfl rfl (r32 (by omega) (by omega)) (fun (h87 : (m71.1 10) ≠ 0) => ?_) (fun (h87 : ¬ ((m71.1 10) ≠ 0)) => by exfalso; omega)
    refine T_ld 140 (.ref 189) rfl (fun _ => rfl) ?_
    refine T_ld 142 (.int (i32 401)) rfl (fun _ => rfl) ?_
    refine T_ld 144 (.int (i32 1)) rfl (fun _ => rfl) ?_
    refine T_ld 146 (.int (i32 s70)) rfl (fun _ => rfl) ?_
    refine T_ld 147 (.long (i64 0)) rfl (fun _ => rfl) ?_
    refine T_call 150 248 [.ref 189, .int (i32 401), .int (i32 1), .int (i32 s70), .long (i64 0)] [] rfl (fun _ => rfl) rfl (c_node w (mO m [(7, (m71.1 7)), (8, (m71.1 8)), (9, (m71.1 9)), (10, (m71.1 10)), (11, (m71.1 11)), (12, (m71.1 12)), (28, (m.1 28)), (69, (m.1 69)), (70, (m.1 70)), (71, (m.1 71)), (72, (m.1 72)), (75, (m.1 75))] [(65, (m.2 65)), (66, (m.2 66)), (67, (m.2 67)), (68, (m.2 68))]) c N D (by omega) (Ty_mO hT rfl rfl ⟨(q77.1 7), (q77.1 8), (q77.1 9), (q77.1 10), (q77.1 11), (q77.1 12), f28, f69, f70, f71, f72, f75, trivial⟩ ⟨(hT.2.1 65), (hT.2.1 66), (hT.2.1 67), (hT.2.1 68), trivial⟩) 401 1 s70 0 B h ⟨by decide, by decide⟩ ⟨by decide, by decide⟩ (r32 (by omega) (by omega)) ⟨by decide, by decide⟩ (fun (h : (m71.1 10) = 0) => absurd h (by omega))) (fun rr88 k89 => ?_)
    obtain ⟨m90, hT91, h92, c93, rfl⟩ := k89
    refine ⟨_, _, rfl, ?_⟩
    refine T_nf2 (st' := []) (l' := [(7, (m71.1 7)), (8, (m71.1 8)), (9, (m71.1 9)), (10, (m90.1 10)), (11, (m90.1 11)), (12, (m71.1 12)), (28, (m90.1 28)), (69, (m.1 69)), (70, (m.1 70)), (71, (m.1 71)), (72, (m.1 72)), (75, (m.1 75))]) (a' := [(65, (m90.2 65)), (66, (m90.2 66)), (67, (m90.2 67)), (68, (m90.2 68))]) [10, 11, 28] [65, 66, 67, 68] rfl ⟨rfl, rfl, rfl, rfl, rfl, rfl, rfl, rfl, rfl, rfl, rfl, rfl, rfl, rfl, rfl, rfl, rfl, rfl, rfl, rfl, rfl, rfl, rfl, rfl, rfl, rfl, rfl, rfl, trivial⟩ ⟨rfl, rfl, rfl, rfl, rfl, rfl, rfl, rfl, trivial⟩ rfl rfl (by decide) (by decide) ?_
    have g94 : 0 ≤ m90.1 10 ∧ m90.1 10 ≤ 8 := hT91.1 10
    have g95 : (-1) ≤ m90.1 11 ∧ m90.1 11 ≤ 4000 := hT91.1 11
    have g96 : 0 ≤ m90.1 28 ∧ m90.1 28 ≤ 800 := hT91.1 28
    replace h92 : (m90.1 10) = 0 → (m71.1 10) = 0 := h92
    have hf97 : 1 ≤ (m90.1 10) := by omega
    clear c93
    clear h92
    clear q75a q75b q75 q77_10 q77_11 ic84 ic85 h87
    refine Tm_lv (a := [(0, .ref 189), (1, .int (i32 p)), (2, .int (i32 v67)), (3, .int (i32 v68)), (4, .int (i32 1)), (5, .int (i32 401)), (6, .int (i32 s70))]) rfl rfl ⟨rfl, rfl, rfl, rfl, rfl, rfl, rfl, trivial⟩ ?_
    exact J150_41 v67 v68 1 401 s70 (mO m [(7, (m71.1 7)), (8, (m71.1 8)), (9, (m71.1 9)), (10, (m90.1 10)), (11, (m90.1 11)), (12, (m71.1 12)), (28, (m90.1 28)), (69, (m.1 69)), (70, (m.1 70)), (71, (m.1 71)), (72, (m.1 72)), (75, (m.1 75))] [(65, (m90.2 65)), (66, (m90.2 66)), (67, (m90.2 67)), (68, (m90.2 68))]) (r32 (by omega) (by omega)) (r32 (by omega) (by omega)) ⟨by decide, by decide⟩ ⟨by decide, by decide⟩ (r32 (by omega) (by omega)) (Ty_mO hT rfl rfl ⟨(q77.1 7), (q77.1 8), (q77.1 9), (hT91.1 10), (hT91.1 11), (q77.1 12), (hT91.1 28), f69, f70, f71, f72, f75, trivial⟩ ⟨(hT91.2.1 65), (hT91.2.1 66), (hT91.2.1 67), (hT91.2.1 68), trivial⟩) (show (-2147483648) ≤ v67 by omega) (show v67 ≤ 2147483647 by omega) (show 0 ≤ (1 : Int) by omega) (show (1 : Int) ≤ 64 by omega) (show 401 ≤ (401 : Int) by omega) (show (401 : Int) ≤ 403 by omega) (show 1 ≤ (m90.1 10) by omega) (show (m90.1 10) ≤ 8 by omega)
  have J103_102 : ∀ (v98 : Int) (v99 : Int) (v100 : Int) (m101 : mR), (R32 v98) → (R32 v99) → (R32 v100) → (Ty m101) → ((-2147483648) ≤ v98) → (v98 ≤ (-1)) → (2 ≤ v99) → (v99 ≤ 2) → (1 ≤ (m101.1 10)) → ((m101.1 10) ≤ 8) → (0 ≤ v100 ∧ v100 ≤ 11) → TT w D pm_251 (103, [(0, .ref 189), (1, .int (i32 p)), (2, .int (i32 v98)), (3, .int (i32 v99)), (4, .int (i32 1)), (5, .int (i32 401)), (6, .int (i32 v100))], [], (mhp (mO m [(7, (m101.1 7)), (8, (m101.1 8)), (9, (m101.1 9)), (10, (m101.1 10)), (11, (m101.1 11)), (12, (m101.1 12)), (28, (m.1 28)), (69, (m.1 69)), (70, (m.1 70)), (71, (m.1 71)), (72, (m.1 72)), (75, (m.1 75))] [(65, (m.2 65)), (66, (m.2 66)), (67, (m.2 67)), (68, (m.2 68))]) c, N), 0, 0) (Q_takeName m c N p B h) := by
    intro v98 v99 v100 m101 q103 q104 q105 q106 ic107 ic108 ic109 ic110 ic111 ic112 ic113
    obtain ⟨q103a, q103b⟩ := id q103
    obtain ⟨q104a, q104b⟩ := id q104
    obtain ⟨q105a, q105b⟩ := id q105
    have q106_7 : 0 ≤ m101.1 7 ∧ m101.1 7 ≤ 330 := q106.1 7
    have q106_8 : 0 ≤ m101.1 8 ∧ m101.1 8 ≤ 4000 := q106.1 8
    have q106_9 : 0 ≤ m101.1 9 ∧ m101.1 9 ≤ 4000 := q106.1 9
    have q106_10 : 0 ≤ m101.1 10 ∧ m101.1 10 ≤ 8 := q106.1 10
    have q106_11 : (-1) ≤ m101.1 11 ∧ m101.1 11 ≤ 4000 := q106.1 11
    have q106_12 : (-9223372036854775808) ≤ m101.1 12 ∧ m101.1 12 ≤ 9223372036854775807 := q106.1 12
    refine T_ld 104 (.ref 189) rfl (fun _ => rfl) ?_
    refine T_ld 106 (.int (i32 v100)) rfl (fun _ => rfl) ?_
    refine T_call 109 253 [.ref 189, .int (i32 v100)] [] rfl (fun _ => rfl) rfl (c_takeField w (mO m [(7, (m101.1 7)), (8, (m101.1 8)), (9, (m101.1 9)), (10, (m101.1 10)), (11, (m101.1 11)), (12, (m101.1 12)), (28, (m.1 28)), (69, (m.1 69)), (70, (m.1 70)), (71, (m.1 71)), (72, (m.1 72)), (75, (m.1 75))] [(65, (m.2 65)), (66, (m.2 66)), (67, (m.2 67)), (68, (m.2 68))]) c N D (by omega) (Ty_mO hT rfl rfl ⟨(q106.1 7), (q106.1 8), (q106.1 9), (q106.1 10), (q106.1 11), (q106.1 12), f28, f69, f70, f71, f72, f75, trivial⟩ ⟨(hT.2.1 65), (hT.2.1 66), (hT.2.1 67), (hT.2.1 68), trivial⟩) v100 (r32 (by omega) (by omega)) (show LxP (m101.1 7) (m101.1 8) (m101.1 9) (m.1 6) (m101.1 10) by first | exact hLx | exact (fun _ => hLx (by omega)) | (intro h9; exfalso; omega)) (show ∀ k, (m.2 31) k + (m.2 32) k ≤ 4000 by assumption) (show 0 ≤ v100 ∧ v100 ≤ 11 by omega) (fun (h : (m101.1 10) = 0) => absurd h (by omega))) (fun rr115 k116 => ?_)
    obtain ⟨m117, tf, hT118, g119, h120, h121, c122, rfl⟩ := k116
    refine ⟨_, _, rfl, ?_⟩
    refine T_nf2 (st' := [.int (i32 tf)]) (l' := [(7, (m117.1 7)), (8, (m117.1 8)), (9, (m117.1 9)), (10, (m117.1 10)), (11, (m117.1 11)), (12, (m117.1 12)), (28, (m.1 28)), (69, (m.1 69)), (70, (m.1 70)), (71, (m.1 71)), (72, (m.1 72)), (75, (m.1 75))]) (a' := [(65, (m.2 65)), (66, (m.2 66)), (67, (m.2 67)), (68, (m.2 68))]) [7, 8, 9, 10, 11, 12] [] rfl ⟨rfl, rfl, rfl, rfl, rfl, rfl, rfl, rfl, rfl, rfl, rfl, rfl, rfl, rfl, rfl, rfl, rfl, rfl, rfl, rfl, rfl, rfl, rfl, rfl, trivial⟩ ⟨rfl, rfl, rfl, rfl, rfl, rfl, rfl, rfl, trivial⟩ rfl rfl (by decide) (by decide) ?_
    obtain ⟨g119a, g119b⟩ := g119
    have g123 : 0 ≤ m117.1 7 ∧ m117.1 7 ≤ 330 := hT118.1 7
    have g124 : 0 ≤ m117.1 8 ∧ m117.1 8 ≤ 4000 := hT118.1 8
    have g125 : 0 ≤ m117.1 9 ∧ m117.1 9 ≤ 4000 := hT118.1 9
    have g126 : 0 ≤ m117.1 10 ∧ m117.1 10 ≤ 8 := hT118.1 10
    have g127 : (-1) ≤ m117.1 11 ∧ m117.1 11 ≤ 4000 := hT118.1 11
    have g128 : (-9223372036854775808) ≤ m117.1 12 ∧ m117.1 12 ≤ 9223372036854775807 := hT118.1 12
    replace h120 : (m117.1 10) = 0 → (m101.1 10) = 0 := h120
    replace h121 : LxP (m117.1 7) (m117.1 8) (m117.1 9) (m.1 6) (m117.1 10) := h121
    have hf129 : 1 ≤ (m117.1 10) := by omega
    clear c122
    clear h120
    have hLx := h121
    clear q106_7 q106_8 q106_9 q106_10 q106_11 q106_12 ic111 ic112
    exact J109_72 v98 v99 v100 tf (mO m [(7, (m117.1 7)), (8, (m117.1 8)), (9, (m117.1 9)), (10, (m117.1 10)), (11, (m117.1 11)), (12, (m117.1 12)), (28, (m.1 28)), (69, (m.1 69)), (70, (m.1 70)), (71, (m.1 71)), (72, (m.1 72)), (75, (m.1 75))] [(65, (m.2 65)), (66, (m.2 66)), (67, (m.2 67)), (68, (m.2 68))]) (r32 (by omega) (by omega)) (r32 (by omega) (by omega)) (r32 (by omega) (by omega)) (r32 (by omega) (by omega)) (Ty_mO hT rfl rfl ⟨(hT118.1 7), (hT118.1 8), (hT118.1 9), (hT118.1 10), (hT118.1 11), (hT118.1 12), f28, f69, f70, f71, f72, f75, trivial⟩ ⟨(hT.2.1 65), (hT.2.1 66), (hT.2.1 67), (hT.2.1 68), trivial⟩) (show (-2147483648) ≤ v98 by omega) (show v98 ≤ (-1) by omega) (show 2 ≤ v99 by omega) (show v99 ≤ 2 by omega) (show 0 ≤ tf by omega) (show tf ≤ 191 by omega) (show 1 ≤ (m117.1 10) by omega) (show (m117.1 10) ≤ 8 by omega)
  refine T_ld 1 (.ref 189) rfl (fun _ => rfl) ?_
  refine T_call 4 252 [.ref 189] [] rfl (fun _ => rfl) rfl (c_parameterHere w (mO m [(7, (m.1 7)), (8, (m.1 8)), (9, (m.1 9)), (10, (m.1 10)), (11, (m.1 11)), (12, (m.1 12)), (28, (m.1 28)), (69, (m.1 69)), (70, (m.1 70)), (71, (m.1 71)), (72, (m.1 72)), (75, (m.1 75))] [(65, (m.2 65)), (66, (m.2 66)), (67, (m.2 67)), (68, (m.2 68))]) c N D (by omega) (Ty_mO hT rfl rfl ⟨f7, f8, f9, f10, f11, f12, f28, f69, f70, f71, f72, f75, trivial⟩ ⟨(hT.2.1 65), (hT.2.1 66), (hT.2.1 67), (hT.2.1 68), trivial⟩) (show 1 ≤ (m.1 9) ∧ (m.1 8) + (m.1 9) ≤ (m.1 6) by first | omega | (have h8 := hLx (by omega); omega)) (show ∀ k, (m.2 47) k + (m.2 48) k ≤ 4000 by exact hPA)) (fun rr130 k131 => ?_)
  obtain ⟨pq, g132, h133, rfl⟩ := k131
  refine ⟨_, _, rfl, ?_⟩
  refine T_nf2 (st' := [.int (i32 pq)]) (l' := [(7, (m.1 7)), (8, (m.1 8)), (9, (m.1 9)), (10, (m.1 10)), (11, (m.1 11)), (12, (m.1 12)), (28, (m.1 28)), (69, (m.1 69)), (70, (m.1 70)), (71, (m.1 71)), (72, (m.1 72)), (75, (m.1 75))]) (a' := [(65, (m.2 65)), (66, (m.2 66)), (67, (m.2 67)), (68, (m.2 68))]) [] [] rfl ⟨rfl, rfl, rfl, rfl, rfl, rfl, rfl, rfl, rfl, rfl, rfl, rfl, rfl, rfl, rfl, rfl, rfl, rfl, rfl, rfl, rfl, rfl, rfl, rfl, trivial⟩ ⟨rfl, rfl, rfl, rfl, rfl, rfl, rfl, rfl, trivial⟩ rfl rfl (by decide) (by decide) ?_
  obtain ⟨g132a, g132b⟩ := g132
  replace h133 : -1 ≤ pq ∧ pq ≤ 63 := h133
  have u134 : (m.1 8) ≤ (m.1 8) := by omega
  refine T_sto 5 [(2, .int (i32 pq)), (0, .ref 189), (1, .int (i32 p))] rfl (fun _ => rfl) ?_
  refine T_ld 6 (.ref 189) rfl (fun _ => rfl) ?_
  refine T_call 9 227 [.ref 189] [] rfl (fun _ => rfl) rfl (c_sortHere w (mO m [(7, (m.1 7)), (8, (m.1 8)), (9, (m.1 9)), (10, (m.1 10)), (11, (m.1 11)), (12, (m.1 12)), (28, (m.1 28)), (69, (m.1 69)), (70, (m.1 70)), (71, (m.1 71)), (72, (m.1 72)), (75, (m.1 75))] [(65, (m.2 65)), (66, (m.2 66)), (67, (m.2 67)), (68, (m.2 68))]) c N D (by omega) (Ty_mO hT rfl rfl ⟨f7, f8, f9, f10, f11, f12, f28, f69, f70, f71, f72, f75, trivial⟩ ⟨(hT.2.1 65), (hT.2.1 66), (hT.2.1 67), (hT.2.1 68), trivial⟩) (show 1 ≤ (m.1 9) ∧ (m.1 8) + (m.1 9) ≤ (m.1 6) by first | omega | (have h8 := hLx (by omega); omega)) (show ∀ k, (m.2 14) k + (m.2 15) k ≤ 4000 by first | exact hNM | exact p1)) (fun rr135 k136 => ?_)
  obtain ⟨so, g137, h138, h139, rfl⟩ := k136
  refine ⟨_, _, rfl, ?_⟩
  refine T_nf2 (st' := [.int (i32 so)]) (l' := [(7, (m.1 7)), (8, (m.1 8)), (9, (m.1 9)), (10, (m.1 10)), (11, (m.1 11)), (12, (m.1 12)), (28, (m.1 28)), (69, (m.1 69)), (70, (m.1 70)), (71, (m.1 71)), (72, (m.1 72)), (75, (m.1 75))]) (a' := [(65, (m.2 65)), (66, (m.2 66)), (67, (m.2 67)), (68, (m.2 68))]) [] [] rfl ⟨rfl, rfl, rfl, rfl, rfl, rfl, rfl, rfl, rfl, rfl, rfl, rfl, rfl, rfl, rfl, rfl, rfl, rfl, rfl, rfl, rfl, rfl, rfl, rfl, trivial⟩ ⟨rfl, rfl, rfl, rfl, rfl, rfl, rfl, rfl, trivial⟩ rfl rfl (by decide) (by decide) ?_
  obtain ⟨g137a, g137b⟩ := g137
  replace h138 : ∃ g k, isGH (m.2 4) (m.1 8) (m.1 9) g ∧ (g < 0 → isFH (m.2 4) (m.2 14) (m.2 15) (m.1 8) (m.1 9) (m.1 13) k) ∧ so = sortV (m.2 16) g k := h138
  have hSo := h138
  replace h139 : -1 ≤ so ∧ so ≤ 7 := h139
  have u140 : (m.1 8) ≤ (m.1 8) := by omega
  refine T_sto 10 [(3, .int (i32 so)), (2, .int (i32 pq)), (0, .ref 189), (1, .int (i32 p))] rfl (fun _ => rfl) ?_
  refine T_ld 11 (.int (i32 1)) rfl (fun _ => rfl) ?_
  refine T_sto 13 [(4, .int (i32 1)), (3, .int (i32 so)), (2, .int (i32 pq)), (0, .ref 189), (1, .int (i32 p))] rfl (fun _ => rfl) ?_
  refine T_ld 16 (.int (i32 403)) rfl (fun _ => rfl) ?_
  refine T_sto 18 [(5, .int (i32 403)), (4, .int (i32 1)), (3, .int (i32 so)), (2, .int (i32 pq)), (0, .ref 189), (1, .int (i32 p))] rfl (fun _ => rfl) ?_
  refine T_ld 19 (.int (i32 0)) rfl (fun _ => rfl) ?_
  refine T_sto 21 [(6, .int (i32 0)), (5, .int (i32 403)), (4, .int (i32 1)), (3, .int (i32 so)), (2, .int (i32 pq)), (0, .ref 189), (1, .int (i32 p))] rfl (fun _ => rfl) ?_
  refine T_ld 22 (.int (i32 pq)) rfl (fun _ => rfl) ?_
  refine T_if 45 25 rfl rfl rfl (r32 (by omega) (by omega)) (fun (h141 : pq < 0) => ?_) (fun (h141 : ¬ (pq < 0)) => ?_)
  · skip
    refine T_ld 46 (.int (i32 so)) rfl (fun _ => rfl) ?_
    refine T_ld 47 (.int (i32 3)) rfl (fun _ => rfl) ?_
    refine T_icmp 77 50 rfl rfl rfl (r32 (by omega) (by omega)) ⟨by decide, by decide⟩ (fun (h142 : so ≠ 3) => ?_) (fun (h142 : ¬ (so ≠ 3)) => ?_)
    · skip
      refine T_ld 78 (.int (i32 so)) rfl (fun _ => rfl) ?_
      refine T_ld 79 (.int (i32 2)) rfl (fun _ => rfl) ?_
      refine T_icmp 129 82 rfl rfl rfl (r32 (by omega) (by omega)) ⟨by decide, by decide⟩ (fun (h143 : so ≠ 2) => ?_) (fun (h143 : ¬ (so ≠ 2)) => ?_)
      · skip
        refine T_ld 130 (.ref 189) rfl (fun _ => rfl) ?_
        refine T_ld 132 (.int (i32 6)) rfl (fun _ => rfl) ?_
        refine T_gf 136 (.int (i32 (m.1 8))) rfl rfl rfl rfl rfl rfl ?_
        refine T_call 139 222 [.ref 189, .int (i32 6), .int (i32 (m.1 8))] [] rfl (fun _ => rfl) rfl (c_wrong w (mO m [(7, (m.1 7)), (8, (m.1 8)), (9, (m.1 9)), (10, (m.1 10)), (11, (m.1 11)), (12, (m.1 12)), (28, (m.1 28)), (69, (m.1 69)), (70, (m.1 70)), (71, (m.1 71)), (72, (m.1 72)), (75, (m.1 75))] [(65, (m.2 65)), (66, (m.2 66)), (67, (m.2 67)), (68, (m.2 68))]) c N D (by omega) (Ty_mO hT rfl rfl ⟨f7, f8, f9, f10, f11, f12, f28, f69, f70, f71, f72, f75, trivial⟩ ⟨(hT.2.1 65), (hT.2.1 66), (hT.2.1 67), (hT.2.1 68), trivial⟩) 6 (m.1 8) ⟨by decide, by decide⟩ (r32 (by omega) (by omega)) (show 1 ≤ (6 : Int) ∧ (6 : Int) ≤ 8 by omega) (show 0 ≤ (m.1 8) ∧ (m.1 8) ≤ 4000 by omega)) (fun rr144 k145 => ?_)
        obtain ⟨y146, y148, g147, g149, h150, rfl⟩ := k145
        refine ⟨_, _, rfl, ?_⟩
        refine T_nf2 (st' := []) (l' := [(7, (m.1 7)), (8, (m.1 8)), (9, (m.1 9)), (10, y146), (11, y148), (12, (m.1 12)), (28, (m.1 28)), (69, (m.1 69)), (70, (m.1 70)), (71, (m.1 71)), (72, (m.1 72)), (75, (m.1 75))]) (a' := [(65, (m.2 65)), (66, (m.2 66)), (67, (m.2 67)), (68, (m.2 68))]) [10, 11] [] rfl ⟨rfl, rfl, rfl, rfl, rfl, rfl, rfl, rfl, rfl, rfl, rfl, rfl, rfl, rfl, rfl, rfl, rfl, rfl, rfl, rfl, rfl, rfl, rfl, rfl, rfl, rfl, rfl, trivial⟩ ⟨rfl, rfl, rfl, rfl, rfl, rfl, rfl, rfl, trivial⟩ rfl rfl (by decide) (by decide) ?_
        replace h150 : (0 < (m.1 10) → y146 = (m.1 10) ∧ y148 = (m.1 11)) ∧ ((m.1 10) ≤ 0 → y146 = (6 : Int) ∧ y148 = (m.1 8)) := h150
        have hf151 : 1 ≤ y146 := by omega
        refine T_ld 140 (.ref 189) rfl (fun _ => rfl) ?_
        refine T_ld 142 (.int (i32 403)) rfl (fun _ => rfl) ?_
        refine T_ld 144 (.int (i32 1)) rfl (fun _ => rfl) ?_
        refine T_ld 146 (.int (i32 0)) rfl (fun _ => rfl) ?_
        refine T_ld 147 (.long (i64 0)) rfl (fun _ => rfl) ?_
        refine T_call 150 248 [.ref 189, .int (i32 403), .int (i32 1), .int (i32 0), .long (i64 0)] [] rfl (fun _ => rfl) rfl (c_node w (mO m [(7, (m.1 7)), (8, (m.1 8)), (9, (m.1 9)), (10, y146), (11, y148), (12, (m.1 12)), (28, (m.1 28)), (69, (m.1 69)), (70, (m.1 70)), (71, (m.1 71)), (72, (m.1 72)), (75, (m.1 75))] [(65, (m.2 65)), (66, (m.2 66)), (67, (m.2 67)), (68, (m.2 68))]) c N D (by omega) (Ty_mO hT rfl rfl ⟨f7, f8, f9, g147, g149, f12, f28, f69, f70, f71, f72, f75, trivial⟩ ⟨(hT.2.1 65), (hT.2.1 66), (hT.2.1 67), (hT.2.1 68), trivial⟩) 403 1 0 0 B h ⟨by decide, by decide⟩ ⟨by decide, by decide⟩ ⟨by decide, by decide⟩ ⟨by decide, by decide⟩ (fun (h : y146 = 0) => absurd h (by omega))) (fun rr152 k153 => ?_)
        obtain ⟨m154, hT155, h156, c157, rfl⟩ := k153
        refine ⟨_, _, rfl, ?_⟩
        refine T_nf2 (st' := []) (l' := [(7, (m.1 7)), (8, (m.1 8)), (9, (m.1 9)), (10, (m154.1 10)), (11, (m154.1 11)), (12, (m.1 12)), (28, (m154.1 28)), (69, (m.1 69)), (70, (m.1 70)), (71, (m.1 71)), (72, (m.1 72)), (75, (m.1 75))]) (a' := [(65, (m154.2 65)), (66, (m154.2 66)), (67, (m154.2 67)), (68, (m154.2 68))]) [10, 11, 28] [65, 66, 67, 68] rfl ⟨rfl, rfl, rfl, rfl, rfl, rfl, rfl, rfl, rfl, rfl, rfl, rfl, rfl, rfl, rfl, rfl, rfl, rfl, rfl, rfl, rfl, rfl, rfl, rfl, rfl, rfl, rfl, rfl, trivial⟩ ⟨rfl, rfl, rfl, rfl, rfl, rfl, rfl, rfl, trivial⟩ rfl rfl (by decide) (by decide) ?_
        have g158 : 0 ≤ m154.1 10 ∧ m154.1 10 ≤ 8 := hT155.1 10
        have g159 : (-1) ≤ m154.1 11 ∧ m154.1 11 ≤ 4000 := hT155.1 11
        have g160 : 0 ≤ m154.1 28 ∧ m154.1 28 ≤ 800 := hT155.1 28
        replace h156 : (m154.1 10) = 0 → y146 = 0 := h156
        have hf161 : 1 ≤ (m154.1 10) := by omega
        clear c157
        clear h156
        clear g147 g149 hf151 h150
        refine Tm_lv (a := [(0, .ref 189), (1, .int (i32 p)), (2, .int (i32 pq)), (3, .int (i32 so)), (4, .int (i32 1)), (5, .int (i32 403)), (6, .int (i32 0))]) rfl rfl ⟨rfl, rfl, rfl, rfl, rfl, rfl, rfl, trivial⟩ ?_
        exact J150_41 pq so 1 403 0 (mO m [(7, (m.1 7)), (8, (m.1 8)), (9, (m.1 9)), (10, (m154.1 10)), (11, (m154.1 11)), (12, (m.1 12)), (28, (m154.1 28)), (69, (m.1 69)), (70, (m.1 70)), (71, (m.1 71)), (72, (m.1 72)), (75, (m.1 75))] [(65, (m154.2 65)), (66, (m154.2 66)), (67, (m154.2 67)), (68, (m154.2 68))]) (r32 (by omega) (by omega)) (r32 (by omega) (by omega)) ⟨by decide, by decide⟩ ⟨by decide, by decide⟩ ⟨by decide, by decide⟩ (Ty_mO hT rfl rfl ⟨f7, f8, f9, (hT155.1 10), (hT155.1 11), f12, (hT155.1 28), f69, f70, f71, f72, f75, trivial⟩ ⟨(hT155.2.1 65), (hT155.2.1 66), (hT155.2.1 67), (hT155.2.1 68), trivial⟩) (show (-2147483648) ≤ pq by omega) (show pq ≤ 2147483647 by omega) (show 0 ≤ (1 : Int) by omega) (show (1 : Int) ≤ 64 by omega) (show 401 ≤ (403 : Int) by omega) (show (403 : Int) ≤ 403 by omega) (show 1 ≤ (m154.1 10) by omega) (show (m154.1 10) ≤ 8 by omega)
      · skip
        refine T_ld 85 (.int (i32 401)) rfl (fun _ => rfl) ?_
        refine T_sto 87 [(5, .int (i32 401)), (6, .int (i32 0)), (4, .int (i32 1)), (3, .int (i32 so)), (2, .int (i32 pq)), (0, .ref 189), (1, .int (i32 p))] rfl (fun _ => rfl) ?_
        refine T_ld 88 (.ref 189) rfl (fun _ => rfl) ?_
        refine T_call 91 237 [.ref 189] [] rfl (fun _ => rfl) rfl (c_whichHere w (mO m [(7, (m.1 7)), (8, (m.1 8)), (9, (m.1 9)), (10, (m.1 10)), (11, (m.1 11)), (12, (m.1 12)), (28, (m.1 28)), (69, (m.1 69)), (70, (m.1 70)), (71, (m.1 71)), (72, (m.1 72)), (75, (m.1 75))] [(65, (m.2 65)), (66, (m.2 66)), (67, (m.2 67)), (68, (m.2 68))]) c N D (by omega) (Ty_mO hT rfl rfl ⟨f7, f8, f9, f10, f11, f12, f28, f69, f70, f71, f72, f75, trivial⟩ ⟨(hT.2.1 65), (hT.2.1 66), (hT.2.1 67), (hT.2.1 68), trivial⟩) (show 1 ≤ (m.1 9) ∧ (m.1 8) + (m.1 9) ≤ (m.1 6) by first | omega | (have h8 := hLx (by omega); omega)) (show ∀ k, (m.2 14) k + (m.2 15) k ≤ 4000 by first | exact hNM | exact p1) (show ∀ g k, isGH (m.2 4) (m.1 8) (m.1 9) g → g < 0 → isFH (m.2 4) (m.2 14) (m.2 15) (m.1 8) (m.1 9) (m.1 13) k → 0 ≤ k by exact old_ok hSo (by omega))) (fun rr162 k163 => ?_)
        obtain ⟨wi, g164, h165, rfl⟩ := k163
        refine ⟨_, _, rfl, ?_⟩
        refine T_nf2 (st' := [.int (i32 wi)]) (l' := [(7, (m.1 7)), (8, (m.1 8)), (9, (m.1 9)), (10, (m.1 10)), (11, (m.1 11)), (12, (m.1 12)), (28, (m.1 28)), (69, (m.1 69)), (70, (m.1 70)), (71, (m.1 71)), (72, (m.1 72)), (75, (m.1 75))]) (a' := [(65, (m.2 65)), (66, (m.2 66)), (67, (m.2 67)), (68, (m.2 68))]) [] [] rfl ⟨rfl, rfl, rfl, rfl, rfl, rfl, rfl, rfl, rfl, rfl, rfl, rfl, rfl, rfl, rfl, rfl, rfl, rfl, rfl, rfl, rfl, rfl, rfl, rfl, trivial⟩ ⟨rfl, rfl, rfl, rfl, rfl, rfl, rfl, rfl, trivial⟩ rfl rfl (by decide) (by decide) ?_
        obtain ⟨g164a, g164b⟩ := g164
        replace h165 : ∃ g k, isGH (m.2 4) (m.1 8) (m.1 9) g ∧ (g < 0 → isFH (m.2 4) (m.2 14) (m.2 15) (m.1 8) (m.1 9) (m.1 13) k) ∧ wi = whichV (m.2 17) g k := h165
        have hWi := h165
        have u166 : (m.1 8) ≤ (m.1 8) := by omega
        obtain ⟨hw0, hw1⟩ : 0 ≤ wi ∧ wi < (m.1 20) := old_rg hSo hWi (by omega) (by omega) (by omega) (PNl_2 pPN) (by omega)
        refine T_sto 93 [(6, .int (i32 wi)), (5, .int (i32 401)), (4, .int (i32 1)), (3, .int (i32 so)), (2, .int (i32 pq)), (0, .ref 189), (1, .int (i32 p))] rfl (fun _ => rfl) ?_
        refine T_ld 94 (.ref 189) rfl (fun _ => rfl) ?_
        refine T_call 97 212 [.ref 189] [] rfl (fun _ => rfl) rfl (c_next w (mO m [(7, (m.1 7)), (8, (m.1 8)), (9, (m.1 9)), (10, (m.1 10)), (11, (m.1 11)), (12, (m.1 12)), (28, (m.1 28)), (69, (m.1 69)), (70, (m.1 70)), (71, (m.1 71)), (72, (m.1 72)), (75, (m.1 75))] [(65, (m.2 65)), (66, (m.2 66)), (67, (m.2 67)), (68, (m.2 68))]) c N D (by omega) (Ty_mO hT rfl rfl ⟨f7, f8, f9, f10, f11, f12, f28, f69, f70, f71, f72, f75, trivial⟩ ⟨(hT.2.1 65), (hT.2.1 66), (hT.2.1 67), (hT.2.1 68), trivial⟩) (show (m.1 10) = 0 → (m.1 8) + (m.1 9) ≤ (m.1 6) by first | omega | (intro h9; have h8 := hLx h9; omega))) (fun rr167 k168 => ?_)
        obtain ⟨y169, y171, y173, y175, y177, y179, g170, g172, g174, g176, g178, g180, h181, h182, h183, h184, rfl⟩ := k168
        refine ⟨_, _, rfl, ?_⟩
        refine T_nf2 (st' := []) (l' := [(7, y169), (8, y171), (9, y173), (10, y175), (11, y177), (12, y179), (28, (m.1 28)), (69, (m.1 69)), (70, (m.1 70)), (71, (m.1 71)), (72, (m.1 72)), (75, (m.1 75))]) (a' := [(65, (m.2 65)), (66, (m.2 66)), (67, (m.2 67)), (68, (m.2 68))]) [7, 8, 9, 10, 11, 12] [] rfl ⟨rfl, rfl, rfl, rfl, rfl, rfl, rfl, rfl, rfl, rfl, rfl, rfl, rfl, rfl, rfl, rfl, rfl, rfl, rfl, rfl, rfl, rfl, rfl, rfl, trivial⟩ ⟨rfl, rfl, rfl, rfl, rfl, rfl, rfl, rfl, trivial⟩ rfl rfl (by decide) (by decide) ?_
        by_cases hf185 : y175 = 0
        · skip
          subst hf185
          replace h181 : LxP y169 y171 y173 (m.1 6) (0 : Int) := h181
          have hLx := h181
          replace h182 : (m.1 10) = 0 := h182 rfl
          replace h183 : (m.1 8) ≤ y171 := h183
          replace h184 : (m.1 8) + (m.1 9) ≤ y171 := h184 rfl
          have u186 : (m.1 8) + 1 ≤ y171 := by omega
          clear g176
          refine T_ld 98 (.ref 189) rfl (fun _ => rfl) ?_
          refine T_ld 100 (.int (i32 46)) rfl (fun _ => rfl) ?_
          refine T_call 103 232 [.ref 189, .int (i32 46)] [] rfl (fun _ => rfl) rfl (c_need w (mO m [(7, y169), (8, y171), (9, y173), (10, 0), (11, y177), (12, y179), (28, (m.1 28)), (69, (m.1 69)), (70, (m.1 70)), (71, (m.1 71)), (72, (m.1 72)), (75, (m.1 75))] [(65, (m.2 65)), (66, (m.2 66)), (67, (m.2 67)), (68, (m.2 68))]) c N D (by omega) (Ty_mO hT rfl rfl ⟨g170, g172, g174, ⟨(by omega : (0 : Int) ≤ 0), (by omega : (0 : Int) ≤ 8)⟩, g178, g180, f28, f69, f70, f71, f72, f75, trivial⟩ ⟨(hT.2.1 65), (hT.2.1 66), (hT.2.1 67), (hT.2.1 68), trivial⟩) 46 ⟨by decide, by decide⟩ (show 1 ≤ (46 : Int) by omega) (show LxP y169 y171 y173 (m.1 6) (0 : Int) by first | exact hLx | (intro h9; exfalso; omega) | (intro h9; have h8 := hLx (by omega); omega))) (fun rr187 k188 => ?_)
          obtain ⟨y189, y191, y193, y195, y197, y199, g190, g192, g194, g196, g198, g200, h201, h202, h203, h204, rfl⟩ := k188
          refine ⟨_, _, rfl, ?_⟩
          refine T_nf2 (st' := []) (l' := [(7, y189), (8, y191), (9, y193), (10, y195), (11, y197), (12, y199), (28, (m.1 28)), (69, (m.1 69)), (70, (m.1 70)), (71, (m.1 71)), (72, (m.1 72)), (75, (m.1 75))]) (a' := [(65, (m.2 65)), (66, (m.2 66)), (67, (m.2 67)), (68, (m.2 68))]) [7, 8, 9, 10, 11, 12] [] rfl ⟨rfl, rfl, rfl, rfl, rfl, rfl, rfl, rfl, rfl, rfl, rfl, rfl, rfl, rfl, rfl, rfl, rfl, rfl, rfl, rfl, rfl, rfl, rfl, rfl, trivial⟩ ⟨rfl, rfl, rfl, rfl, rfl, rfl, rfl, rfl, trivial⟩ rfl rfl (by decide) (by decide) ?_
          by_cases hf205 : y195 = 0
          · skip
            subst hf205
            replace h201 : LxP y189 y191 y193 (m.1 6) (0 : Int) := h201
            have hLx := h201
            replace h202 : (0 : Int) = 0 ∧ y169 = (46 : Int) := h202 rfl
            replace h203 : y171 ≤ y191 := h203
            replace h204 : y171 + y173 ≤ y191 := h204 rfl
            have u206 : (m.1 8) + 1 ≤ y191 := by omega
            clear g170 g172 g174 g178 g180 h181 h183 h184 u186 g196 h202 h203 h204
            refine T_ld 104 (.ref 189) rfl (fun _ => rfl) ?_
            refine T_ld 106 (.int (i32 wi)) rfl (fun _ => rfl) ?_
            refine T_call 109 253 [.ref 189, .int (i32 wi)] [] rfl (fun _ => rfl) rfl (c_takeField w (mO m [(7, y189), (8, y191), (9, y193), (10, 0), (11, y197), (12, y199), (28, (m.1 28)), (69, (m.1 69)), (70, (m.1 70)), (71, (m.1 71)), (72, (m.1 72)), (75, (m.1 75))] [(65, (m.2 65)), (66, (m.2 66)), (67, (m.2 67)), (68, (m.2 68))]) c N D (by omega) (Ty_mO hT rfl rfl ⟨g190, g192, g194, ⟨(by omega : (0 : Int) ≤ 0), (by omega : (0 : Int) ≤ 8)⟩, g198, g200, f28, f69, f70, f71, f72, f75, trivial⟩ ⟨(hT.2.1 65), (hT.2.1 66), (hT.2.1 67), (hT.2.1 68), trivial⟩) wi (r32 (by omega) (by omega)) (show LxP y189 y191 y193 (m.1 6) (0 : Int) by first | exact hLx | exact (fun _ => hLx (by omega)) | (intro h9; exfalso; omega)) (show ∀ k, (m.2 31) k + (m.2 32) k ≤ 4000 by assumption) (show 0 ≤ wi ∧ wi ≤ 11 by omega) (fun _ => trivial)) (fun rr207 k208 => ?_)
            obtain ⟨m209, tf, hT210, g211, h212, h213, c214, rfl⟩ := k208
            refine ⟨_, _, rfl, ?_⟩
            refine T_nf2 (st' := [.int (i32 tf)]) (l' := [(7, (m209.1 7)), (8, (m209.1 8)), (9, (m209.1 9)), (10, (m209.1 10)), (11, (m209.1 11)), (12, (m209.1 12)), (28, (m.1 28)), (69, (m.1 69)), (70, (m.1 70)), (71, (m.1 71)), (72, (m.1 72)), (75, (m.1 75))]) (a' := [(65, (m.2 65)), (66, (m.2 66)), (67, (m.2 67)), (68, (m.2 68))]) [7, 8, 9, 10, 11, 12] [] rfl ⟨rfl, rfl, rfl, rfl, rfl, rfl, rfl, rfl, rfl, rfl, rfl, rfl, rfl, rfl, rfl, rfl, rfl, rfl, rfl, rfl, rfl, rfl, rfl, rfl, trivial⟩ ⟨rfl, rfl, rfl, rfl, rfl, rfl, rfl, rfl, trivial⟩ rfl rfl (by decide) (by decide) ?_
            obtain ⟨g211a, g211b⟩ := g211
            have g215 : 0 ≤ m209.1 7 ∧ m209.1 7 ≤ 330 := hT210.1 7
            have g216 : 0 ≤ m209.1 8 ∧ m209.1 8 ≤ 4000 := hT210.1 8
            have g217 : 0 ≤ m209.1 9 ∧ m209.1 9 ≤ 4000 := hT210.1 9
            have g218 : 0 ≤ m209.1 10 ∧ m209.1 10 ≤ 8 := hT210.1 10
            have g219 : (-1) ≤ m209.1 11 ∧ m209.1 11 ≤ 4000 := hT210.1 11
            have g220 : (-9223372036854775808) ≤ m209.1 12 ∧ m209.1 12 ≤ 9223372036854775807 := hT210.1 12
            by_cases hf221 : (m209.1 10) = 0
            · skip
              replace h212 : (0 : Int) = 0 := h212 hf221
              replace h213 : LxP (m209.1 7) (m209.1 8) (m209.1 9) (m.1 6) (m209.1 10) := h213
              have hLx := h213
              obtain ⟨c222, c223⟩ := c214 hf221
              replace c222 : y191 + 1 ≤ (m209.1 8) := c222
              replace c223 : y189 = 1 := c223
              clear c214
              have u224 : (m.1 8) + 1 ≤ (m209.1 8) := by omega
              clear g190 g192 g194 g198 g200 h201 u206 c222 c223
              refine T_sto 111 [(6, .int (i32 tf)), (5, .int (i32 401)), (4, .int (i32 1)), (3, .int (i32 so)), (2, .int (i32 pq)), (0, .ref 189), (1, .int (i32 p))] rfl (fun _ => rfl) ?_
              refine T_gf 115 (.int (i32 (m209.1 10))) rfl rfl rfl rfl rfl rfl ?_
              refine T_if 139 118 rfl rfl rfl (r32 (by omega) (by omega)) (fun (h225 : (m209.1 10) ≠ 0) => by exfalso; omega) (fun (h225 : ¬ ((m209.1 10) ≠ 0)) => ?_)
              refine T_ld 119 (.ref 189) rfl (fun _ => rfl) ?_
              refine T_ld 121 (.int (i32 tf)) rfl (fun _ => rfl) ?_
              refine T_call 124 254 [.ref 189, .int (i32 tf)] [] rfl (fun _ => rfl) rfl (c_bitsOfField w (mO m [(7, (m209.1 7)), (8, (m209.1 8)), (9, (m209.1 9)), (10, (m209.1 10)), (11, (m209.1 11)), (12, (m209.1 12)), (28, (m.1 28)), (69, (m.1 69)), (70, (m.1 70)), (71, (m.1 71)), (72, (m.1 72)), (75, (m.1 75))] [(65, (m.2 65)), (66, (m.2 66)), (67, (m.2 67)), (68, (m.2 68))]) c N D (by omega) (Ty_mO hT rfl rfl ⟨(hT210.1 7), (hT210.1 8), (hT210.1 9), (hT210.1 10), (hT210.1 11), (hT210.1 12), f28, f69, f70, f71, f72, f75, trivial⟩ ⟨(hT.2.1 65), (hT.2.1 66), (hT.2.1 67), (hT.2.1 68), trivial⟩) tf (r32 (by omega) (by omega)) (show 0 ≤ tf ∧ tf ≤ 191 by omega)) (fun rr226 k227 => ?_)
              obtain ⟨x228, g229, rfl⟩ := k227
              refine ⟨_, _, rfl, ?_⟩
              refine T_nf2 (st' := [.int (i32 x228)]) (l' := [(7, (m209.1 7)), (8, (m209.1 8)), (9, (m209.1 9)), (10, (m209.1 10)), (11, (m209.1 11)), (12, (m209.1 12)), (28, (m.1 28)), (69, (m.1 69)), (70, (m.1 70)), (71, (m.1 71)), (72, (m.1 72)), (75, (m.1 75))]) (a' := [(65, (m.2 65)), (66, (m.2 66)), (67, (m.2 67)), (68, (m.2 68))]) [] [] rfl ⟨rfl, rfl, rfl, rfl, rfl, rfl, rfl, rfl, rfl, rfl, rfl, rfl, rfl, rfl, rfl, rfl, rfl, rfl, rfl, rfl, rfl, rfl, rfl, rfl, trivial⟩ ⟨rfl, rfl, rfl, rfl, rfl, rfl, rfl, rfl, trivial⟩ rfl rfl (by decide) (by decide) ?_
              obtain ⟨g229a, g229b⟩ := g229
              have u230 : (m.1 8) + 1 ≤ (m209.1 8) := by omega
              clear g164a g164b h165
              refine T_sto 126 [(4, .int (i32 x228)), (6, .int (i32 tf)), (5, .int (i32 401)), (3, .int (i32 so)), (2, .int (i32 pq)), (0, .ref 189), (1, .int (i32 p))] rfl (fun _ => rfl) ?_
              refine T_goto 139 rfl (fun _ => rfl) ?_
              have hA : ar (401 : Int) = 0 := ar_0 (by omega)
              have hAr : ar (401 : Int) ≤ h := by omega
              have hCk : CNk (401 : Int) tf := by refine ⟨?_, ?_, ?_, ?_⟩ <;> omega
              refine T_ld 140 (.ref 189) rfl (fun _ => rfl) ?_
              refine T_ld 142 (.int (i32 401)) rfl (fun _ => rfl) ?_
              refine T_ld 144 (.int (i32 x228)) rfl (fun _ => rfl) ?_
              refine T_ld 146 (.int (i32 tf)) rfl (fun _ => rfl) ?_
              refine T_ld 147 (.long (i64 0)) rfl (fun _ => rfl) ?_
              refine T_call 150 248 [.ref 189, .int (i32 401), .int (i32 x228), .int (i32 tf), .long (i64 0)] [] rfl (fun _ => rfl) rfl (c_node w (mO m [(7, (m209.1 7)), (8, (m209.1 8)), (9, (m209.1 9)), (10, (m209.1 10)), (11, (m209.1 11)), (12, (m209.1 12)), (28, (m.1 28)), (69, (m.1 69)), (70, (m.1 70)), (71, (m.1 71)), (72, (m.1 72)), (75, (m.1 75))] [(65, (m.2 65)), (66, (m.2 66)), (67, (m.2 67)), (68, (m.2 68))]) c N D (by omega) (Ty_mO hT rfl rfl ⟨(hT210.1 7), (hT210.1 8), (hT210.1 9), (hT210.1 10), (hT210.1 11), (hT210.1 12), f28, f69, f70, f71, f72, f75, trivial⟩ ⟨(hT.2.1 65), (hT.2.1 66), (hT.2.1 67), (hT.2.1 68), trivial⟩) 401 x228 tf 0 B h ⟨by decide, by decide⟩ (r32 (by omega) (by omega)) (r32 (by omega) (by omega)) ⟨by decide, by decide⟩ (fun _ => ⟨(show 0 ≤ (401 : Int) ∧ (401 : Int) ≤ 408 by first | omega | decide), (show 0 ≤ x228 ∧ x228 ≤ 64 by first | omega | decide), (show 0 ≤ tf ∧ tf ≤ 191 by first | omega | decide), (show CNk (401 : Int) tf by first | exact hCk | (refine ⟨?_, ?_, ?_, ?_⟩ <;> omega)), (show ar (401 : Int) ≤ h by first | exact hAr | omega), (show EX (m.2 65) (m.2 67) B (m.1 28) h by first | exact hEX | assumption)⟩)) (fun rr231 k232 => ?_)
              obtain ⟨m233, hT234, h235, c236, rfl⟩ := k232
              refine ⟨_, _, rfl, ?_⟩
              refine T_nf2 (st' := []) (l' := [(7, (m209.1 7)), (8, (m209.1 8)), (9, (m209.1 9)), (10, (m233.1 10)), (11, (m233.1 11)), (12, (m209.1 12)), (28, (m233.1 28)), (69, (m.1 69)), (70, (m.1 70)), (71, (m.1 71)), (72, (m.1 72)), (75, (m.1 75))]) (a' := [(65, (m233.2 65)), (66, (m233.2 66)), (67, (m233.2 67)), (68, (m233.2 68))]) [10, 11, 28] [65, 66, 67, 68] rfl ⟨rfl, rfl, rfl, rfl, rfl, rfl, rfl, rfl, rfl, rfl, rfl, rfl, rfl, rfl, rfl, rfl, rfl, rfl, rfl, rfl, rfl, rfl, rfl, rfl, rfl, rfl, rfl, rfl, trivial⟩ ⟨rfl, rfl, rfl, rfl, rfl, rfl, rfl, rfl, trivial⟩ rfl rfl (by decide) (by decide) ?_
              have g237 : 0 ≤ m233.1 10 ∧ m233.1 10 ≤ 8 := hT234.1 10
              have g238 : (-1) ≤ m233.1 11 ∧ m233.1 11 ≤ 4000 := hT234.1 11
              have g239 : 0 ≤ m233.1 28 ∧ m233.1 28 ≤ 800 := hT234.1 28
              by_cases hf240 : (m233.1 10) = 0
              · skip
                replace h235 : (m209.1 10) = 0 := h235 hf240
                obtain ⟨c241, c242, c243⟩ := c236 hf240
                replace c241 : (m233.1 28) = (m.1 28) + 1 := c241
                replace c242 : EX (m233.2 65) (m233.2 67) B (m233.1 28) (h + 1 - ar (401 : Int)) := c242
                have hEX := c242
                replace c243 : agr (m.2 65) (m233.2 65) (m.1 28) := c243
                have hAg := c243
                clear c236
                have u244 : (m.1 8) + 1 ≤ (m209.1 8) := by omega
                clear g218 g219 h213 h225 h235
                refine T_ld 151 (.ref 189) rfl (fun _ => rfl) ?_
                refine T_ld 153 (.int (i32 x228)) rfl (fun _ => rfl) ?_
                refine T_ld 154 (.int (i32 p)) rfl (fun _ => rfl) ?_
                refine T_call 157 249 [.ref 189, .int (i32 x228), .int (i32 p)] [] rfl (fun _ => rfl) rfl (c_atom w (mO m [(7, (m209.1 7)), (8, (m209.1 8)), (9, (m209.1 9)), (10, (m233.1 10)), (11, (m233.1 11)), (12, (m209.1 12)), (28, (m233.1 28)), (69, (m.1 69)), (70, (m.1 70)), (71, (m.1 71)), (72, (m.1 72)), (75, (m.1 75))] [(65, (m233.2 65)), (66, (m233.2 66)), (67, (m233.2 67)), (68, (m233.2 68))]) c N D (by omega) (Ty_mO hT rfl rfl ⟨(hT210.1 7), (hT210.1 8), (hT210.1 9), (hT234.1 10), (hT234.1 11), (hT210.1 12), (hT234.1 28), f69, f70, f71, f72, f75, trivial⟩ ⟨(hT234.2.1 65), (hT234.2.1 66), (hT234.2.1 67), (hT234.2.1 68), trivial⟩) x228 p (r32 (by omega) (by omega)) (r32 (by omega) (by omega)) (show 0 ≤ x228 ∧ x228 ≤ 64 by omega) (show 0 ≤ p ∧ p ≤ 4000 by omega)) (fun rr245 k246 => ?_)
                obtain ⟨m247, hT248, h249, rfl⟩ := k246
                refine ⟨_, _, rfl, ?_⟩
                refine T_nf2 (st' := []) (l' := [(7, (m209.1 7)), (8, (m209.1 8)), (9, (m209.1 9)), (10, (m233.1 10)), (11, (m233.1 11)), (12, (m209.1 12)), (28, (m233.1 28)), (69, (m247.1 69)), (70, (m247.1 70)), (71, (m247.1 71)), (72, (m247.1 72)), (75, (m247.1 75))]) (a' := [(65, (m233.2 65)), (66, (m233.2 66)), (67, (m233.2 67)), (68, (m233.2 68))]) [69, 70, 71, 72, 75] [] rfl ⟨rfl, rfl, rfl, rfl, rfl, rfl, rfl, rfl, rfl, rfl, rfl, rfl, rfl, rfl, rfl, rfl, rfl, rfl, rfl, rfl, rfl, rfl, rfl, rfl, rfl, rfl, rfl, rfl, rfl, rfl, rfl, trivial⟩ ⟨rfl, rfl, rfl, rfl, rfl, rfl, rfl, rfl, trivial⟩ rfl rfl (by decide) (by decide) ?_
                have g250 : 0 ≤ m247.1 69 ∧ m247.1 69 ≤ 1024 := hT248.1 69
                have g251 : 0 ≤ m247.1 70 ∧ m247.1 70 ≤ 4000 := hT248.1 70
                have g252 : 0 ≤ m247.1 71 ∧ m247.1 71 ≤ 1 := hT248.1 71
                have g253 : (-9223372036854775808) ≤ m247.1 72 ∧ m247.1 72 ≤ 9223372036854775807 := hT248.1 72
                have g254 : 0 ≤ m247.1 75 ∧ m247.1 75 ≤ 3 := hT248.1 75
                replace h249 : (m233.1 10) = 0 → (m247.1 75) = 1 ∧ (m247.1 69) = x228 := h249
                have u255 : (m.1 8) + 1 ≤ (m209.1 8) := by omega
                refine T_ret rfl (fun _ => rfl) ?_
                exact ⟨(mO m [(7, (m209.1 7)), (8, (m209.1 8)), (9, (m209.1 9)), (10, (m233.1 10)), (11, (m233.1 11)), (12, (m209.1 12)), (28, (m233.1 28)), (69, (m247.1 69)), (70, (m247.1 70)), (71, (m247.1 71)), (72, (m247.1 72)), (75, (m247.1 75))] [(65, (m233.2 65)), (66, (m233.2 66)), (67, (m233.2 67)), (68, (m233.2 68))]), (Ty_mO hT rfl rfl ⟨(hT210.1 7), (hT210.1 8), (hT210.1 9), (hT234.1 10), (hT234.1 11), (hT210.1 12), (hT234.1 28), (hT248.1 69), (hT248.1 70), (hT248.1 71), (hT248.1 72), (hT248.1 75), trivial⟩ ⟨(hT234.2.1 65), (hT234.2.1 66), (hT234.2.1 67), (hT234.2.1 68), trivial⟩), (show (m233.1 10) = 0 → (m.1 10) = 0 by omega), (show LxP (m209.1 7) (m209.1 8) (m209.1 9) (m.1 6) (m233.1 10) by first | (first | exact hLx | exact (fun _ => hLx (by omega)) | (intro h9; exfalso; omega)) | (exfalso; omega)), (fun _ => ⟨(show (m.1 8) + 1 ≤ (m209.1 8) by omega), (show (m247.1 75) = 1 by omega), (show (m247.1 69) ≤ 64 by omega), (show (m233.1 28) = (m.1 28) + 1 by omega), (show EX (m233.2 65) (m233.2 67) B (m233.1 28) (h + 1) by first | (exact EX_w hEX (by omega)) | (exfalso; omega)), (show agr (m.2 65) (m233.2 65) (m.1 28) by first | (exact hAg) | (exfalso; omega))⟩), rfl⟩
              · skip
                clear c236
                clear h235
                have hf256 : 1 ≤ (m233.1 10) := by omega
                clear g218 g219 h213 h225
                refine Tm_lv (a := [(0, .ref 189), (1, .int (i32 p)), (2, .int (i32 pq)), (3, .int (i32 so)), (4, .int (i32 x228)), (5, .int (i32 401)), (6, .int (i32 tf))]) rfl rfl ⟨rfl, rfl, rfl, rfl, rfl, rfl, rfl, trivial⟩ ?_
                exact J150_41 pq so x228 401 tf (mO m [(7, (m209.1 7)), (8, (m209.1 8)), (9, (m209.1 9)), (10, (m233.1 10)), (11, (m233.1 11)), (12, (m209.1 12)), (28, (m233.1 28)), (69, (m.1 69)), (70, (m.1 70)), (71, (m.1 71)), (72, (m.1 72)), (75, (m.1 75))] [(65, (m233.2 65)), (66, (m233.2 66)), (67, (m233.2 67)), (68, (m233.2 68))]) (r32 (by omega) (by omega)) (r32 (by omega) (by omega)) (r32 (by omega) (by omega)) ⟨by decide, by decide⟩ (r32 (by omega) (by omega)) (Ty_mO hT rfl rfl ⟨(hT210.1 7), (hT210.1 8), (hT210.1 9), (hT234.1 10), (hT234.1 11), (hT210.1 12), (hT234.1 28), f69, f70, f71, f72, f75, trivial⟩ ⟨(hT234.2.1 65), (hT234.2.1 66), (hT234.2.1 67), (hT234.2.1 68), trivial⟩) (show (-2147483648) ≤ pq by omega) (show pq ≤ 2147483647 by omega) (show 0 ≤ x228 by omega) (show x228 ≤ 64 by omega) (show 401 ≤ (401 : Int) by omega) (show (401 : Int) ≤ 403 by omega) (show 1 ≤ (m233.1 10) by omega) (show (m233.1 10) ≤ 8 by omega)
            · skip
              clear c214
              clear h212
              replace h213 : LxP (m209.1 7) (m209.1 8) (m209.1 9) (m.1 6) (m209.1 10) := h213
              have hLx := h213
              have hf257 : 1 ≤ (m209.1 10) := by omega
              clear g190 g192 g194 g198 g200 h201 u206
              refine Tm_lv (a := [(0, .ref 189), (1, .int (i32 p)), (2, .int (i32 pq)), (3, .int (i32 so)), (4, .int (i32 1)), (5, .int (i32 401)), (6, .int (i32 wi))]) rfl rfl ⟨rfl, rfl, rfl, rfl, rfl, rfl, rfl, trivial⟩ ?_
              exact J109_72 pq so wi tf (mO m [(7, (m209.1 7)), (8, (m209.1 8)), (9, (m209.1 9)), (10, (m209.1 10)), (11, (m209.1 11)), (12, (m209.1 12)), (28, (m.1 28)), (69, (m.1 69)), (70, (m.1 70)), (71, (m.1 71)), (72, (m.1 72)), (75, (m.1 75))] [(65, (m.2 65)), (66, (m.2 66)), (67, (m.2 67)), (68, (m.2 68))]) (r32 (by omega) (by omega)) (r32 (by omega) (by omega)) (r32 (by omega) (by omega)) (r32 (by omega) (by omega)) (Ty_mO hT rfl rfl ⟨(hT210.1 7), (hT210.1 8), (hT210.1 9), (hT210.1 10), (hT210.1 11), (hT210.1 12), f28, f69, f70, f71, f72, f75, trivial⟩ ⟨(hT.2.1 65), (hT.2.1 66), (hT.2.1 67), (hT.2.1 68), trivial⟩) (show (-2147483648) ≤ pq by omega) (show pq ≤ (-1) by omega) (show 2 ≤ so by omega) (show so ≤ 2 by omega) (show 0 ≤ tf by omega) (show tf ≤ 191 by omega) (show 1 ≤ (m209.1 10) by omega) (show (m209.1 10) ≤ 8 by omega)
          · skip
            replace h201 : LxP y189 y191 y193 (m.1 6) y195 := h201
            have hLx := h201
            clear h202
            replace h203 : y171 ≤ y191 := h203
            clear h204
            have hf258 : 1 ≤ y195 := by omega
            clear g170 g172 g174 g178 g180 h181 h183 h184 u186 h203
            refine Tm_lv (a := [(0, .ref 189), (1, .int (i32 p)), (2, .int (i32 pq)), (3, .int (i32 so)), (4, .int (i32 1)), (5, .int (i32 401)), (6, .int (i32 wi))]) rfl rfl ⟨rfl, rfl, rfl, rfl, rfl, rfl, rfl, trivial⟩ ?_
            exact J103_102 pq so wi (mO m [(7, y189), (8, y191), (9, y193), (10, y195), (11, y197), (12, y199), (28, (m.1 28)), (69, (m.1 69)), (70, (m.1 70)), (71, (m.1 71)), (72, (m.1 72)), (75, (m.1 75))] [(65, (m.2 65)), (66, (m.2 66)), (67, (m.2 67)), (68, (m.2 68))]) (r32 (by omega) (by omega)) (r32 (by omega) (by omega)) (r32 (by omega) (by omega)) (Ty_mO hT rfl rfl ⟨g190, g192, g194, g196, g198, g200, f28, f69, f70, f71, f72, f75, trivial⟩ ⟨(hT.2.1 65), (hT.2.1 66), (hT.2.1 67), (hT.2.1 68), trivial⟩) (show (-2147483648) ≤ pq by omega) (show pq ≤ (-1) by omega) (show 2 ≤ so by omega) (show so ≤ 2 by omega) (show 1 ≤ y195 by omega) (show y195 ≤ 8 by omega) (show 0 ≤ wi ∧ wi ≤ 11 by omega)
        · skip
          replace h181 : LxP y169 y171 y173 (m.1 6) y175 := h181
          have hLx := h181
          clear h182
          replace h183 : (m.1 8) ≤ y171 := h183
          clear h184
          have hf259 : 1 ≤ y175 := by omega
          refine T_ld 98 (.ref 189) rfl (fun _ => rfl) ?_
          refine T_ld 100 (.int (i32 46)) rfl (fun _ => rfl) ?_
          refine T_call 103 232 [.ref 189, .int (i32 46)] [] rfl (fun _ => rfl) rfl (c_need w (mO m [(7, y169), (8, y171), (9, y173), (10, y175), (11, y177), (12, y179), (28, (m.1 28)), (69, (m.1 69)), (70, (m.1 70)), (71, (m.1 71)), (72, (m.1 72)), (75, (m.1 75))] [(65, (m.2 65)), (66, (m.2 66)), (67, (m.2 67)), (68, (m.2 68))]) c N D (by omega) (Ty_mO hT rfl rfl ⟨g170, g172, g174, g176, g178, g180, f28, f69, f70, f71, f72, f75, trivial⟩ ⟨(hT.2.1 65), (hT.2.1 66), (hT.2.1 67), (hT.2.1 68), trivial⟩) 46 ⟨by decide, by decide⟩ (show 1 ≤ (46 : Int) by omega) (show LxP y169 y171 y173 (m.1 6) y175 by first | exact hLx | (intro h9; exfalso; omega) | (intro h9; have h8 := hLx (by omega); omega))) (fun rr260 k261 => ?_)
          obtain ⟨y262, y264, y266, y268, y270, y272, g263, g265, g267, g269, g271, g273, h274, h275, h276, h277, rfl⟩ := k261
          refine ⟨_, _, rfl, ?_⟩
          refine T_nf2 (st' := []) (l' := [(7, y262), (8, y264), (9, y266), (10, y268), (11, y270), (12, y272), (28, (m.1 28)), (69, (m.1 69)), (70, (m.1 70)), (71, (m.1 71)), (72, (m.1 72)), (75, (m.1 75))]) (a' := [(65, (m.2 65)), (66, (m.2 66)), (67, (m.2 67)), (68, (m.2 68))]) [7, 8, 9, 10, 11, 12] [] rfl ⟨rfl, rfl, rfl, rfl, rfl, rfl, rfl, rfl, rfl, rfl, rfl, rfl, rfl, rfl, rfl, rfl, rfl, rfl, rfl, rfl, rfl, rfl, rfl, rfl, trivial⟩ ⟨rfl, rfl, rfl, rfl, rfl, rfl, rfl, rfl, trivial⟩ rfl rfl (by decide) (by decide) ?_
          replace h274 : LxP y262 y264 y266 (m.1 6) y268 := h274
          replace h275 : y268 = 0 → y175 = 0 ∧ y169 = (46 : Int) := h275
          replace h276 : y171 ≤ y264 := h276
          replace h277 : y268 = 0 → y171 + y173 ≤ y264 := h277
          have hf278 : 1 ≤ y268 := by omega
          clear h275
          clear h277
          have hLx := h274
          clear g170 g172 g174 g176 g178 g180 h181 h183 hf259 h276
          refine Tm_lv (a := [(0, .ref 189), (1, .int (i32 p)), (2, .int (i32 pq)), (3, .int (i32 so)), (4, .int (i32 1)), (5, .int (i32 401)), (6, .int (i32 wi))]) rfl rfl ⟨rfl, rfl, rfl, rfl, rfl, rfl, rfl, trivial⟩ ?_
          exact J103_102 pq so wi (mO m [(7, y262), (8, y264), (9, y266), (10, y268), (11, y270), (12, y272), (28, (m.1 28)), (69, (m.1 69)), (70, (m.1 70)), (71, (m.1 71)), (72, (m.1 72)), (75, (m.1 75))] [(65, (m.2 65)), (66, (m.2 66)), (67, (m.2 67)), (68, (m.2 68))]) (r32 (by omega) (by omega)) (r32 (by omega) (by omega)) (r32 (by omega) (by omega)) (Ty_mO hT rfl rfl ⟨g263, g265, g267, g269, g271, g273, f28, f69, f70, f71, f72, f75, trivial⟩ ⟨(hT.2.1 65), (hT.2.1 66), (hT.2.1 67), (hT.2.1 68), trivial⟩) (show (-2147483648) ≤ pq by omega) (show pq ≤ (-1) by omega) (show 2 ≤ so by omega) (show so ≤ 2 by omega) (show 1 ≤ y268 by omega) (show y268 ≤ 8 by omega) (show 0 ≤ wi ∧ wi ≤ 11 by omega)
    · skip
      refine T_ld 53 (.int (i32 402)) rfl (fun _ => rfl) ?_
      refine T_sto 55 [(5, .int (i32 402)), (6, .int (i32 0)), (4, .int (i32 1)), (3, .int (i32 so)), (2, .int (i32 pq)), (0, .ref 189), (1, .int (i32 p))] rfl (fun _ => rfl) ?_
      refine T_ld 56 (.ref 189) rfl (fun _ => rfl) ?_
      refine T_call 59 237 [.ref 189] [] rfl (fun _ => rfl) rfl (c_whichHere w (mO m [(7, (m.1 7)), (8, (m.1 8)), (9, (m.1 9)), (10, (m.1 10)), (11, (m.1 11)), (12, (m.1 12)), (28, (m.1 28)), (69, (m.1 69)), (70, (m.1 70)), (71, (m.1 71)), (72, (m.1 72)), (75, (m.1 75))] [(65, (m.2 65)), (66, (m.2 66)), (67, (m.2 67)), (68, (m.2 68))]) c N D (by omega) (Ty_mO hT rfl rfl ⟨f7, f8, f9, f10, f11, f12, f28, f69, f70, f71, f72, f75, trivial⟩ ⟨(hT.2.1 65), (hT.2.1 66), (hT.2.1 67), (hT.2.1 68), trivial⟩) (show 1 ≤ (m.1 9) ∧ (m.1 8) + (m.1 9) ≤ (m.1 6) by first | omega | (have h8 := hLx (by omega); omega)) (show ∀ k, (m.2 14) k + (m.2 15) k ≤ 4000 by first | exact hNM | exact p1) (show ∀ g k, isGH (m.2 4) (m.1 8) (m.1 9) g → g < 0 → isFH (m.2 4) (m.2 14) (m.2 15) (m.1 8) (m.1 9) (m.1 13) k → 0 ≤ k by exact old_ok hSo (by omega))) (fun rr279 k280 => ?_)
      obtain ⟨wi, g281, h282, rfl⟩ := k280
      refine ⟨_, _, rfl, ?_⟩
      refine T_nf2 (st' := [.int (i32 wi)]) (l' := [(7, (m.1 7)), (8, (m.1 8)), (9, (m.1 9)), (10, (m.1 10)), (11, (m.1 11)), (12, (m.1 12)), (28, (m.1 28)), (69, (m.1 69)), (70, (m.1 70)), (71, (m.1 71)), (72, (m.1 72)), (75, (m.1 75))]) (a' := [(65, (m.2 65)), (66, (m.2 66)), (67, (m.2 67)), (68, (m.2 68))]) [] [] rfl ⟨rfl, rfl, rfl, rfl, rfl, rfl, rfl, rfl, rfl, rfl, rfl, rfl, rfl, rfl, rfl, rfl, rfl, rfl, rfl, rfl, rfl, rfl, rfl, rfl, trivial⟩ ⟨rfl, rfl, rfl, rfl, rfl, rfl, rfl, rfl, trivial⟩ rfl rfl (by decide) (by decide) ?_
      obtain ⟨g281a, g281b⟩ := g281
      replace h282 : ∃ g k, isGH (m.2 4) (m.1 8) (m.1 9) g ∧ (g < 0 → isFH (m.2 4) (m.2 14) (m.2 15) (m.1 8) (m.1 9) (m.1 13) k) ∧ wi = whichV (m.2 17) g k := h282
      have hWi := h282
      have u283 : (m.1 8) ≤ (m.1 8) := by omega
      obtain ⟨hw0, hw1⟩ : 0 ≤ wi ∧ wi < (m.1 21) := old_rg hSo hWi (by omega) (by omega) (by omega) (PNl_3 pPN) (by omega)
      refine T_sto 61 [(6, .int (i32 wi)), (5, .int (i32 402)), (4, .int (i32 1)), (3, .int (i32 so)), (2, .int (i32 pq)), (0, .ref 189), (1, .int (i32 p))] rfl (fun _ => rfl) ?_
      refine T_gf 65 (.ref 205) rfl rfl rfl rfl rfl rfl ?_
      refine T_ld 67 (.int (i32 wi)) rfl (fun _ => rfl) ?_
      refine T_iald 68 35 (m.2 35) rfl rfl rfl (by omega) (show wi < (16 : Int) by omega) rfl ?_
      have e284 : 0 ≤ m.2 35 wi ∧ m.2 35 wi ≤ 64 := hT.2.1 35 wi
      refine T_sto 70 [(4, .int (i32 ((m.2 35) wi))), (6, .int (i32 wi)), (5, .int (i32 402)), (3, .int (i32 so)), (2, .int (i32 pq)), (0, .ref 189), (1, .int (i32 p))] rfl (fun _ => rfl) ?_
      refine T_ld 71 (.ref 189) rfl (fun _ => rfl) ?_
      refine T_call 74 212 [.ref 189] [] rfl (fun _ => rfl) rfl (c_next w (mO m [(7, (m.1 7)), (8, (m.1 8)), (9, (m.1 9)), (10, (m.1 10)), (11, (m.1 11)), (12, (m.1 12)), (28, (m.1 28)), (69, (m.1 69)), (70, (m.1 70)), (71, (m.1 71)), (72, (m.1 72)), (75, (m.1 75))] [(65, (m.2 65)), (66, (m.2 66)), (67, (m.2 67)), (68, (m.2 68))]) c N D (by omega) (Ty_mO hT rfl rfl ⟨f7, f8, f9, f10, f11, f12, f28, f69, f70, f71, f72, f75, trivial⟩ ⟨(hT.2.1 65), (hT.2.1 66), (hT.2.1 67), (hT.2.1 68), trivial⟩) (show (m.1 10) = 0 → (m.1 8) + (m.1 9) ≤ (m.1 6) by first | omega | (intro h9; have h8 := hLx h9; omega))) (fun rr285 k286 => ?_)
      obtain ⟨y287, y289, y291, y293, y295, y297, g288, g290, g292, g294, g296, g298, h299, h300, h301, h302, rfl⟩ := k286
      refine ⟨_, _, rfl, ?_⟩
      refine T_nf2 (st' := []) (l' := [(7, y287), (8, y289), (9, y291), (10, y293), (11, y295), (12, y297), (28, (m.1 28)), (69, (m.1 69)), (70, (m.1 70)), (71, (m.1 71)), (72, (m.1 72)), (75, (m.1 75))]) (a' := [(65, (m.2 65)), (66, (m.2 66)), (67, (m.2 67)), (68, (m.2 68))]) [7, 8, 9, 10, 11, 12] [] rfl ⟨rfl, rfl, rfl, rfl, rfl, rfl, rfl, rfl, rfl, rfl, rfl, rfl, rfl, rfl, rfl, rfl, rfl, rfl, rfl, rfl, rfl, rfl, rfl, rfl, trivial⟩ ⟨rfl, rfl, rfl, rfl, rfl, rfl, rfl, rfl, trivial⟩ rfl rfl (by decide) (by decide) ?_
      by_cases hf303 : y293 = 0
      · skip
        subst hf303
        replace h299 : LxP y287 y289 y291 (m.1 6) (0 : Int) := h299
        have hLx := h299
        replace h300 : (m.1 10) = 0 := h300 rfl
        replace h301 : (m.1 8) ≤ y289 := h301
        replace h302 : (m.1 8) + (m.1 9) ≤ y289 := h302 rfl
        have u304 : (m.1 8) + 1 ≤ y289 := by omega
        clear g294
        refine T_goto 139 rfl (fun _ => rfl) ?_
        have hA : ar (402 : Int) = 0 := ar_0 (by omega)
        have hAr : ar (402 : Int) ≤ h := by omega
        have hCk : CNk (402 : Int) wi := by refine ⟨?_, ?_, ?_, ?_⟩ <;> omega
        refine T_ld 140 (.ref 189) rfl (fun _ => rfl) ?_
        refine T_ld 142 (.int (i32 402)) rfl (fun _ => rfl) ?_
        refine T_ld 144 (.int (i32 ((m.2 35) wi))) rfl (fun _ => rfl) ?_
        refine T_ld 146 (.int (i32 wi)) rfl (fun _ => rfl) ?_
        refine T_ld 147 (.long (i64 0)) rfl (fun _ => rfl) ?_
        refine T_call 150 248 [.ref 189, .int (i32 402), .int (i32 ((m.2 35) wi)), .int (i32 wi), .long (i64 0)] [] rfl (fun _ => rfl) rfl (c_node w (mO m [(7, y287), (8, y289), (9, y291), (10, 0), (11, y295), (12, y297), (28, (m.1 28)), (69, (m.1 69)), (70, (m.1 70)), (71, (m.1 71)), (72, (m.1 72)), (75, (m.1 75))] [(65, (m.2 65)), (66, (m.2 66)), (67, (m.2 67)), (68, (m.2 68))]) c N D (by omega) (Ty_mO hT rfl rfl ⟨g288, g290, g292, ⟨(by omega : (0 : Int) ≤ 0), (by omega : (0 : Int) ≤ 8)⟩, g296, g298, f28, f69, f70, f71, f72, f75, trivial⟩ ⟨(hT.2.1 65), (hT.2.1 66), (hT.2.1 67), (hT.2.1 68), trivial⟩) 402 ((m.2 35) wi) wi 0 B h ⟨by decide, by decide⟩ (r32 (by omega) (by omega)) (r32 (by omega) (by omega)) ⟨by decide, by decide⟩ (fun _ => ⟨(show 0 ≤ (402 : Int) ∧ (402 : Int) ≤ 408 by first | omega | decide), (show 0 ≤ ((m.2 35) wi) ∧ ((m.2 35) wi) ≤ 64 by first | omega | decide), (show 0 ≤ wi ∧ wi ≤ 191 by first | omega | decide), (show CNk (402 : Int) wi by first | exact hCk | (refine ⟨?_, ?_, ?_, ?_⟩ <;> omega)), (show ar (402 : Int) ≤ h by first | exact hAr | omega), (show EX (m.2 65) (m.2 67) B (m.1 28) h by first | exact hEX | assumption)⟩)) (fun rr305 k306 => ?_)
        obtain ⟨m307, hT308, h309, c310, rfl⟩ := k306
        refine ⟨_, _, rfl, ?_⟩
        refine T_nf2 (st' := []) (l' := [(7, y287), (8, y289), (9, y291), (10, (m307.1 10)), (11, (m307.1 11)), (12, y297), (28, (m307.1 28)), (69, (m.1 69)), (70, (m.1 70)), (71, (m.1 71)), (72, (m.1 72)), (75, (m.1 75))]) (a' := [(65, (m307.2 65)), (66, (m307.2 66)), (67, (m307.2 67)), (68, (m307.2 68))]) [10, 11, 28] [65, 66, 67, 68] rfl ⟨rfl, rfl, rfl, rfl, rfl, rfl, rfl, rfl, rfl, rfl, rfl, rfl, rfl, rfl, rfl, rfl, rfl, rfl, rfl, rfl, rfl, rfl, rfl, rfl, rfl, rfl, rfl, rfl, trivial⟩ ⟨rfl, rfl, rfl, rfl, rfl, rfl, rfl, rfl, trivial⟩ rfl rfl (by decide) (by decide) ?_
        have g311 : 0 ≤ m307.1 10 ∧ m307.1 10 ≤ 8 := hT308.1 10
        have g312 : (-1) ≤ m307.1 11 ∧ m307.1 11 ≤ 4000 := hT308.1 11
        have g313 : 0 ≤ m307.1 28 ∧ m307.1 28 ≤ 800 := hT308.1 28
        by_cases hf314 : (m307.1 10) = 0
        · skip
          replace h309 : (0 : Int) = 0 := h309 hf314
          obtain ⟨c315, c316, c317⟩ := c310 hf314
          replace c315 : (m307.1 28) = (m.1 28) + 1 := c315
          replace c316 : EX (m307.2 65) (m307.2 67) B (m307.1 28) (h + 1 - ar (402 : Int)) := c316
          have hEX := c316
          replace c317 : agr (m.2 65) (m307.2 65) (m.1 28) := c317
          have hAg := c317
          clear c310
          have u318 : (m.1 8) + 1 ≤ y289 := by omega
          clear g296
          refine T_ld 151 (.ref 189) rfl (fun _ => rfl) ?_
          refine T_ld 153 (.int (i32 ((m.2 35) wi))) rfl (fun _ => rfl) ?_
          refine T_ld 154 (.int (i32 p)) rfl (fun _ => rfl) ?_
          refine T_call 157 249 [.ref 189, .int (i32 ((m.2 35) wi)), .int (i32 p)] [] rfl (fun _ => rfl) rfl (c_atom w (mO m [(7, y287), (8, y289), (9, y291), (10, (m307.1 10)), (11, (m307.1 11)), (12, y297), (28, (m307.1 28)), (69, (m.1 69)), (70, (m.1 70)), (71, (m.1 71)), (72, (m.1 72)), (75, (m.1 75))] [(65, (m307.2 65)), (66, (m307.2 66)), (67, (m307.2 67)), (68, (m307.2 68))]) c N D (by omega) (Ty_mO hT rfl rfl ⟨g288, g290, g292, (hT308.1 10), (hT308.1 11), g298, (hT308.1 28), f69, f70, f71, f72, f75, trivial⟩ ⟨(hT308.2.1 65), (hT308.2.1 66), (hT308.2.1 67), (hT308.2.1 68), trivial⟩) ((m.2 35) wi) p (r32 (by omega) (by omega)) (r32 (by omega) (by omega)) (show 0 ≤ ((m.2 35) wi) ∧ ((m.2 35) wi) ≤ 64 by omega) (show 0 ≤ p ∧ p ≤ 4000 by omega)) (fun rr319 k320 => ?_)
          obtain ⟨m321, hT322, h323, rfl⟩ := k320
          refine ⟨_, _, rfl, ?_⟩
          refine T_nf2 (st' := []) (l' := [(7, y287), (8, y289), (9, y291), (10, (m307.1 10)), (11, (m307.1 11)), (12, y297), (28, (m307.1 28)), (69, (m321.1 69)), (70, (m321.1 70)), (71, (m321.1 71)), (72, (m321.1 72)), (75, (m321.1 75))]) (a' := [(65, (m307.2 65)), (66, (m307.2 66)), (67, (m307.2 67)), (68, (m307.2 68))]) [69, 70, 71, 72, 75] [] rfl ⟨rfl, rfl, rfl, rfl, rfl, rfl, rfl, rfl, rfl, rfl, rfl, rfl, rfl, rfl, rfl, rfl, rfl, rfl, rfl, rfl, rfl, rfl, rfl, rfl, rfl, rfl, rfl, rfl, rfl, rfl, rfl, trivial⟩ ⟨rfl, rfl, rfl, rfl, rfl, rfl, rfl, rfl, trivial⟩ rfl rfl (by decide) (by decide) ?_
          have g324 : 0 ≤ m321.1 69 ∧ m321.1 69 ≤ 1024 := hT322.1 69
          have g325 : 0 ≤ m321.1 70 ∧ m321.1 70 ≤ 4000 := hT322.1 70
          have g326 : 0 ≤ m321.1 71 ∧ m321.1 71 ≤ 1 := hT322.1 71
          have g327 : (-9223372036854775808) ≤ m321.1 72 ∧ m321.1 72 ≤ 9223372036854775807 := hT322.1 72
          have g328 : 0 ≤ m321.1 75 ∧ m321.1 75 ≤ 3 := hT322.1 75
          replace h323 : (m307.1 10) = 0 → (m321.1 75) = 1 ∧ (m321.1 69) = ((m.2 35) wi) := h323
          have u329 : (m.1 8) + 1 ≤ y289 := by omega
          refine T_ret rfl (fun _ => rfl) ?_
          exact ⟨(mO m [(7, y287), (8, y289), (9, y291), (10, (m307.1 10)), (11, (m307.1 11)), (12, y297), (28, (m307.1 28)), (69, (m321.1 69)), (70, (m321.1 70)), (71, (m321.1 71)), (72, (m321.1 72)), (75, (m321.1 75))] [(65, (m307.2 65)), (66, (m307.2 66)), (67, (m307.2 67)), (68, (m307.2 68))]), (Ty_mO hT rfl rfl ⟨g288, g290, g292, (hT308.1 10), (hT308.1 11), g298, (hT308.1 28), (hT322.1 69), (hT322.1 70), (hT322.1 71), (hT322.1 72), (hT322.1 75), trivial⟩ ⟨(hT308.2.1 65), (hT308.2.1 66), (hT308.2.1 67), (hT308.2.1 68), trivial⟩), (show (m307.1 10) = 0 → (m.1 10) = 0 by omega), (show LxP y287 y289 y291 (m.1 6) (m307.1 10) by first | (first | exact hLx | exact (fun _ => hLx (by omega)) | (intro h9; exfalso; omega)) | (exfalso; omega)), (fun _ => ⟨(show (m.1 8) + 1 ≤ y289 by omega), (show (m321.1 75) = 1 by omega), (show (m321.1 69) ≤ 64 by omega), (show (m307.1 28) = (m.1 28) + 1 by omega), (show EX (m307.2 65) (m307.2 67) B (m307.1 28) (h + 1) by first | (exact EX_w hEX (by omega)) | (exfalso; omega)), (show agr (m.2 65) (m307.2 65) (m.1 28) by first | (exact hAg) | (exfalso; omega))⟩), rfl⟩
        · skip
          clear c310
          clear h309
          have hf330 : 1 ≤ (m307.1 10) := by omega
          clear g296
          refine Tm_lv (a := [(0, .ref 189), (1, .int (i32 p)), (2, .int (i32 pq)), (3, .int (i32 so)), (4, .int (i32 ((m.2 35) wi))), (5, .int (i32 402)), (6, .int (i32 wi))]) rfl rfl ⟨rfl, rfl, rfl, rfl, rfl, rfl, rfl, trivial⟩ ?_
          exact J150_41 pq so ((m.2 35) wi) 402 wi (mO m [(7, y287), (8, y289), (9, y291), (10, (m307.1 10)), (11, (m307.1 11)), (12, y297), (28, (m307.1 28)), (69, (m.1 69)), (70, (m.1 70)), (71, (m.1 71)), (72, (m.1 72)), (75, (m.1 75))] [(65, (m307.2 65)), (66, (m307.2 66)), (67, (m307.2 67)), (68, (m307.2 68))]) (r32 (by omega) (by omega)) (r32 (by omega) (by omega)) (r32 (by omega) (by omega)) ⟨by decide, by decide⟩ (r32 (by omega) (by omega)) (Ty_mO hT rfl rfl ⟨g288, g290, g292, (hT308.1 10), (hT308.1 11), g298, (hT308.1 28), f69, f70, f71, f72, f75, trivial⟩ ⟨(hT308.2.1 65), (hT308.2.1 66), (hT308.2.1 67), (hT308.2.1 68), trivial⟩) (show (-2147483648) ≤ pq by omega) (show pq ≤ 2147483647 by omega) (show 0 ≤ ((m.2 35) wi) by omega) (show ((m.2 35) wi) ≤ 64 by omega) (show 401 ≤ (402 : Int) by omega) (show (402 : Int) ≤ 403 by omega) (show 1 ≤ (m307.1 10) by omega) (show (m307.1 10) ≤ 8 by omega)
      · skip
        replace h299 : LxP y287 y289 y291 (m.1 6) y293 := h299
        have hLx := h299
        clear h300
        replace h301 : (m.1 8) ≤ y289 := h301
        clear h302
        have hf331 : 1 ≤ y293 := by omega
        refine T_goto 139 rfl (fun _ => rfl) ?_
        refine T_ld 140 (.ref 189) rfl (fun _ => rfl) ?_
        refine T_ld 142 (.int (i32 402)) rfl (fun _ => rfl) ?_
        refine T_ld 144 (.int (i32 ((m.2 35) wi))) rfl (fun _ => rfl) ?_
        refine T_ld 146 (.int (i32 wi)) rfl (fun _ => rfl) ?_
        refine T_ld 147 (.long (i64 0)) rfl (fun _ => rfl) ?_
        refine T_call 150 248 [.ref 189, .int (i32 402), .int (i32 ((m.2 35) wi)), .int (i32 wi), .long (i64 0)] [] rfl (fun _ => rfl) rfl (c_node w (mO m [(7, y287), (8, y289), (9, y291), (10, y293), (11, y295), (12, y297), (28, (m.1 28)), (69, (m.1 69)), (70, (m.1 70)), (71, (m.1 71)), (72, (m.1 72)), (75, (m.1 75))] [(65, (m.2 65)), (66, (m.2 66)), (67, (m.2 67)), (68, (m.2 68))]) c N D (by omega) (Ty_mO hT rfl rfl ⟨g288, g290, g292, g294, g296, g298, f28, f69, f70, f71, f72, f75, trivial⟩ ⟨(hT.2.1 65), (hT.2.1 66), (hT.2.1 67), (hT.2.1 68), trivial⟩) 402 ((m.2 35) wi) wi 0 B h ⟨by decide, by decide⟩ (r32 (by omega) (by omega)) (r32 (by omega) (by omega)) ⟨by decide, by decide⟩ (fun (h : y293 = 0) => absurd h (by omega))) (fun rr332 k333 => ?_)
        obtain ⟨m334, hT335, h336, c337, rfl⟩ := k333
        refine ⟨_, _, rfl, ?_⟩
        refine T_nf2 (st' := []) (l' := [(7, y287), (8, y289), (9, y291), (10, (m334.1 10)), (11, (m334.1 11)), (12, y297), (28, (m334.1 28)), (69, (m.1 69)), (70, (m.1 70)), (71, (m.1 71)), (72, (m.1 72)), (75, (m.1 75))]) (a' := [(65, (m334.2 65)), (66, (m334.2 66)), (67, (m334.2 67)), (68, (m334.2 68))]) [10, 11, 28] [65, 66, 67, 68] rfl ⟨rfl, rfl, rfl, rfl, rfl, rfl, rfl, rfl, rfl, rfl, rfl, rfl, rfl, rfl, rfl, rfl, rfl, rfl, rfl, rfl, rfl, rfl, rfl, rfl, rfl, rfl, rfl, rfl, trivial⟩ ⟨rfl, rfl, rfl, rfl, rfl, rfl, rfl, rfl, trivial⟩ rfl rfl (by decide) (by decide) ?_
        have g338 : 0 ≤ m334.1 10 ∧ m334.1 10 ≤ 8 := hT335.1 10
        have g339 : (-1) ≤ m334.1 11 ∧ m334.1 11 ≤ 4000 := hT335.1 11
        have g340 : 0 ≤ m334.1 28 ∧ m334.1 28 ≤ 800 := hT335.1 28
        replace h336 : (m334.1 10) = 0 → y293 = 0 := h336
        have hf341 : 1 ≤ (m334.1 10) := by omega
        clear c337
        clear h336
        clear g294 g296 h299 hf331
        refine Tm_lv (a := [(0, .ref 189), (1, .int (i32 p)), (2, .int (i32 pq)), (3, .int (i32 so)), (4, .int (i32 ((m.2 35) wi))), (5, .int (i32 402)), (6, .int (i32 wi))]) rfl rfl ⟨rfl, rfl, rfl, rfl, rfl, rfl, rfl, trivial⟩ ?_
        exact J150_41 pq so ((m.2 35) wi) 402 wi (mO m [(7, y287), (8, y289), (9, y291), (10, (m334.1 10)), (11, (m334.1 11)), (12, y297), (28, (m334.1 28)), (69, (m.1 69)), (70, (m.1 70)), (71, (m.1 71)), (72, (m.1 72)), (75, (m.1 75))] [(65, (m334.2 65)), (66, (m334.2 66)), (67, (m334.2 67)), (68, (m334.2 68))]) (r32 (by omega) (by omega)) (r32 (by omega) (by omega)) (r32 (by omega) (by omega)) ⟨by decide, by decide⟩ (r32 (by omega) (by omega)) (Ty_mO hT rfl rfl ⟨g288, g290, g292, (hT335.1 10), (hT335.1 11), g298, (hT335.1 28), f69, f70, f71, f72, f75, trivial⟩ ⟨(hT335.2.1 65), (hT335.2.1 66), (hT335.2.1 67), (hT335.2.1 68), trivial⟩) (show (-2147483648) ≤ pq by omega) (show pq ≤ 2147483647 by omega) (show 0 ≤ ((m.2 35) wi) by omega) (show ((m.2 35) wi) ≤ 64 by omega) (show 401 ≤ (402 : Int) by omega) (show (402 : Int) ≤ 403 by omega) (show 1 ≤ (m334.1 10) by omega) (show (m334.1 10) ≤ 8 by omega)
  · skip
    refine T_gf 29 (.ref 219) rfl rfl rfl rfl rfl rfl ?_
    refine T_ld 30 (.int (i32 pq)) rfl (fun _ => rfl) ?_
    refine T_iald 31 49 (m.2 49) rfl rfl rfl (by omega) (show pq < (64 : Int) by omega) rfl ?_
    have e342 : 0 ≤ m.2 49 pq ∧ m.2 49 pq ≤ 64 := hT.2.1 49 pq
    refine T_sto 33 [(4, .int (i32 ((m.2 49) pq))), (6, .int (i32 0)), (5, .int (i32 403)), (3, .int (i32 so)), (2, .int (i32 pq)), (0, .ref 189), (1, .int (i32 p))] rfl (fun _ => rfl) ?_
    refine T_ld 34 (.int (i32 pq)) rfl (fun _ => rfl) ?_
    refine T_ld 35 (.int (i32 4)) rfl (fun _ => rfl) ?_
    refine T_irem 36 rfl rfl (by omega) (by omega) (by omega) (by omega) ?_
    refine T_sto 38 [(6, .int (i32 (pq % 4))), (4, .int (i32 ((m.2 49) pq))), (5, .int (i32 403)), (3, .int (i32 so)), (2, .int (i32 pq)), (0, .ref 189), (1, .int (i32 p))] rfl (fun _ => rfl) ?_
    refine T_ld 39 (.ref 189) rfl (fun _ => rfl) ?_
    refine T_call 42 212 [.ref 189] [] rfl (fun _ => rfl) rfl (c_next w (mO m [(7, (m.1 7)), (8, (m.1 8)), (9, (m.1 9)), (10, (m.1 10)), (11, (m.1 11)), (12, (m.1 12)), (28, (m.1 28)), (69, (m.1 69)), (70, (m.1 70)), (71, (m.1 71)), (72, (m.1 72)), (75, (m.1 75))] [(65, (m.2 65)), (66, (m.2 66)), (67, (m.2 67)), (68, (m.2 68))]) c N D (by omega) (Ty_mO hT rfl rfl ⟨f7, f8, f9, f10, f11, f12, f28, f69, f70, f71, f72, f75, trivial⟩ ⟨(hT.2.1 65), (hT.2.1 66), (hT.2.1 67), (hT.2.1 68), trivial⟩) (show (m.1 10) = 0 → (m.1 8) + (m.1 9) ≤ (m.1 6) by first | omega | (intro h9; have h8 := hLx h9; omega))) (fun rr343 k344 => ?_)
    obtain ⟨y345, y347, y349, y351, y353, y355, g346, g348, g350, g352, g354, g356, h357, h358, h359, h360, rfl⟩ := k344
    refine ⟨_, _, rfl, ?_⟩
    refine T_nf2 (st' := []) (l' := [(7, y345), (8, y347), (9, y349), (10, y351), (11, y353), (12, y355), (28, (m.1 28)), (69, (m.1 69)), (70, (m.1 70)), (71, (m.1 71)), (72, (m.1 72)), (75, (m.1 75))]) (a' := [(65, (m.2 65)), (66, (m.2 66)), (67, (m.2 67)), (68, (m.2 68))]) [7, 8, 9, 10, 11, 12] [] rfl ⟨rfl, rfl, rfl, rfl, rfl, rfl, rfl, rfl, rfl, rfl, rfl, rfl, rfl, rfl, rfl, rfl, rfl, rfl, rfl, rfl, rfl, rfl, rfl, rfl, trivial⟩ ⟨rfl, rfl, rfl, rfl, rfl, rfl, rfl, rfl, trivial⟩ rfl rfl (by decide) (by decide) ?_
    by_cases hf361 : y351 = 0
    · skip
      subst hf361
      replace h357 : LxP y345 y347 y349 (m.1 6) (0 : Int) := h357
      have hLx := h357
      replace h358 : (m.1 10) = 0 := h358 rfl
      replace h359 : (m.1 8) ≤ y347 := h359
      replace h360 : (m.1 8) + (m.1 9) ≤ y347 := h360 rfl
      have u362 : (m.1 8) + 1 ≤ y347 := by omega
      clear g352
      refine T_goto 139 rfl (fun _ => rfl) ?_
      have hA : ar (403 : Int) = 0 := ar_0 (by omega)
      have hAr : ar (403 : Int) ≤ h := by omega
      have hCk : CNk (403 : Int) (pq % 4) := by refine ⟨?_, ?_, ?_, ?_⟩ <;> omega
      refine T_ld 140 (.ref 189) rfl (fun _ => rfl) ?_
      refine T_ld 142 (.int (i32 403)) rfl (fun _ => rfl) ?_
      refine T_ld 144 (.int (i32 ((m.2 49) pq))) rfl (fun _ => rfl) ?_
      refine T_ld 146 (.int (i32 (pq % 4))) rfl (fun _ => rfl) ?_
      refine T_ld 147 (.long (i64 0)) rfl (fun _ => rfl) ?_
      refine T_call 150 248 [.ref 189, .int (i32 403), .int (i32 ((m.2 49) pq)), .int (i32 (pq % 4)), .long (i64 0)] [] rfl (fun _ => rfl) rfl (c_node w (mO m [(7, y345), (8, y347), (9, y349), (10, 0), (11, y353), (12, y355), (28, (m.1 28)), (69, (m.1 69)), (70, (m.1 70)), (71, (m.1 71)), (72, (m.1 72)), (75, (m.1 75))] [(65, (m.2 65)), (66, (m.2 66)), (67, (m.2 67)), (68, (m.2 68))]) c N D (by omega) (Ty_mO hT rfl rfl ⟨g346, g348, g350, ⟨(by omega : (0 : Int) ≤ 0), (by omega : (0 : Int) ≤ 8)⟩, g354, g356, f28, f69, f70, f71, f72, f75, trivial⟩ ⟨(hT.2.1 65), (hT.2.1 66), (hT.2.1 67), (hT.2.1 68), trivial⟩) 403 ((m.2 49) pq) (pq % 4) 0 B h ⟨by decide, by decide⟩ (r32 (by omega) (by omega)) (r32 (by omega) (by omega)) ⟨by decide, by decide⟩ (fun _ => ⟨(show 0 ≤ (403 : Int) ∧ (403 : Int) ≤ 408 by first | omega | decide), (show 0 ≤ ((m.2 49) pq) ∧ ((m.2 49) pq) ≤ 64 by first | omega | decide), (show 0 ≤ (pq % 4) ∧ (pq % 4) ≤ 191 by first | omega | decide), (show CNk (403 : Int) (pq % 4) by first | exact hCk | (refine ⟨?_, ?_, ?_, ?_⟩ <;> omega)), (show ar (403 : Int) ≤ h by first | exact hAr | omega), (show EX (m.2 65) (m.2 67) B (m.1 28) h by first | exact hEX | assumption)⟩)) (fun rr363 k364 => ?_)
      obtain ⟨m365, hT366, h367, c368, rfl⟩ := k364
      refine ⟨_, _, rfl, ?_⟩
      refine T_nf2 (st' := []) (l' := [(7, y345), (8, y347), (9, y349), (10, (m365.1 10)), (11, (m365.1 11)), (12, y355), (28, (m365.1 28)), (69, (m.1 69)), (70, (m.1 70)), (71, (m.1 71)), (72, (m.1 72)), (75, (m.1 75))]) (a' := [(65, (m365.2 65)), (66, (m365.2 66)), (67, (m365.2 67)), (68, (m365.2 68))]) [10, 11, 28] [65, 66, 67, 68] rfl ⟨rfl, rfl, rfl, rfl, rfl, rfl, rfl, rfl, rfl, rfl, rfl, rfl, rfl, rfl, rfl, rfl, rfl, rfl, rfl, rfl, rfl, rfl, rfl, rfl, rfl, rfl, rfl, rfl, trivial⟩ ⟨rfl, rfl, rfl, rfl, rfl, rfl, rfl, rfl, trivial⟩ rfl rfl (by decide) (by decide) ?_
      have g369 : 0 ≤ m365.1 10 ∧ m365.1 10 ≤ 8 := hT366.1 10
      have g370 : (-1) ≤ m365.1 11 ∧ m365.1 11 ≤ 4000 := hT366.1 11
      have g371 : 0 ≤ m365.1 28 ∧ m365.1 28 ≤ 800 := hT366.1 28
      by_cases hf372 : (m365.1 10) = 0
      · skip
        replace h367 : (0 : Int) = 0 := h367 hf372
        obtain ⟨c373, c374, c375⟩ := c368 hf372
        replace c373 : (m365.1 28) = (m.1 28) + 1 := c373
        replace c374 : EX (m365.2 65) (m365.2 67) B (m365.1 28) (h + 1 - ar (403 : Int)) := c374
        have hEX := c374
        replace c375 : agr (m.2 65) (m365.2 65) (m.1 28) := c375
        have hAg := c375
        clear c368
        have u376 : (m.1 8) + 1 ≤ y347 := by omega
        clear g354
        refine T_ld 151 (.ref 189) rfl (fun _ => rfl) ?_
        refine T_ld 153 (.int (i32 ((m.2 49) pq))) rfl (fun _ => rfl) ?_
        refine T_ld 154 (.int (i32 p)) rfl (fun _ => rfl) ?_
        refine T_call 157 249 [.ref 189, .int (i32 ((m.2 49) pq)), .int (i32 p)] [] rfl (fun _ => rfl) rfl (c_atom w (mO m [(7, y345), (8, y347), (9, y349), (10, (m365.1 10)), (11, (m365.1 11)), (12, y355), (28, (m365.1 28)), (69, (m.1 69)), (70, (m.1 70)), (71, (m.1 71)), (72, (m.1 72)), (75, (m.1 75))] [(65, (m365.2 65)), (66, (m365.2 66)), (67, (m365.2 67)), (68, (m365.2 68))]) c N D (by omega) (Ty_mO hT rfl rfl ⟨g346, g348, g350, (hT366.1 10), (hT366.1 11), g356, (hT366.1 28), f69, f70, f71, f72, f75, trivial⟩ ⟨(hT366.2.1 65), (hT366.2.1 66), (hT366.2.1 67), (hT366.2.1 68), trivial⟩) ((m.2 49) pq) p (r32 (by omega) (by omega)) (r32 (by omega) (by omega)) (show 0 ≤ ((m.2 49) pq) ∧ ((m.2 49) pq) ≤ 64 by omega) (show 0 ≤ p ∧ p ≤ 4000 by omega)) (fun rr377 k378 => ?_)
        obtain ⟨m379, hT380, h381, rfl⟩ := k378
        refine ⟨_, _, rfl, ?_⟩
        refine T_nf2 (st' := []) (l' := [(7, y345), (8, y347), (9, y349), (10, (m365.1 10)), (11, (m365.1 11)), (12, y355), (28, (m365.1 28)), (69, (m379.1 69)), (70, (m379.1 70)), (71, (m379.1 71)), (72, (m379.1 72)), (75, (m379.1 75))]) (a' := [(65, (m365.2 65)), (66, (m365.2 66)), (67, (m365.2 67)), (68, (m365.2 68))]) [69, 70, 71, 72, 75] [] rfl ⟨rfl, rfl, rfl, rfl, rfl, rfl, rfl, rfl, rfl, rfl, rfl, rfl, rfl, rfl, rfl, rfl, rfl, rfl, rfl, rfl, rfl, rfl, rfl, rfl, rfl, rfl, rfl, rfl, rfl, rfl, rfl, trivial⟩ ⟨rfl, rfl, rfl, rfl, rfl, rfl, rfl, rfl, trivial⟩ rfl rfl (by decide) (by decide) ?_
        have g382 : 0 ≤ m379.1 69 ∧ m379.1 69 ≤ 1024 := hT380.1 69
        have g383 : 0 ≤ m379.1 70 ∧ m379.1 70 ≤ 4000 := hT380.1 70
        have g384 : 0 ≤ m379.1 71 ∧ m379.1 71 ≤ 1 := hT380.1 71
        have g385 : (-9223372036854775808) ≤ m379.1 72 ∧ m379.1 72 ≤ 9223372036854775807 := hT380.1 72
        have g386 : 0 ≤ m379.1 75 ∧ m379.1 75 ≤ 3 := hT380.1 75
        replace h381 : (m365.1 10) = 0 → (m379.1 75) = 1 ∧ (m379.1 69) = ((m.2 49) pq) := h381
        have u387 : (m.1 8) + 1 ≤ y347 := by omega
        refine T_ret rfl (fun _ => rfl) ?_
        exact ⟨(mO m [(7, y345), (8, y347), (9, y349), (10, (m365.1 10)), (11, (m365.1 11)), (12, y355), (28, (m365.1 28)), (69, (m379.1 69)), (70, (m379.1 70)), (71, (m379.1 71)), (72, (m379.1 72)), (75, (m379.1 75))] [(65, (m365.2 65)), (66, (m365.2 66)), (67, (m365.2 67)), (68, (m365.2 68))]), (Ty_mO hT rfl rfl ⟨g346, g348, g350, (hT366.1 10), (hT366.1 11), g356, (hT366.1 28), (hT380.1 69), (hT380.1 70), (hT380.1 71), (hT380.1 72), (hT380.1 75), trivial⟩ ⟨(hT366.2.1 65), (hT366.2.1 66), (hT366.2.1 67), (hT366.2.1 68), trivial⟩), (show (m365.1 10) = 0 → (m.1 10) = 0 by omega), (show LxP y345 y347 y349 (m.1 6) (m365.1 10) by first | (first | exact hLx | exact (fun _ => hLx (by omega)) | (intro h9; exfalso; omega)) | (exfalso; omega)), (fun _ => ⟨(show (m.1 8) + 1 ≤ y347 by omega), (show (m379.1 75) = 1 by omega), (show (m379.1 69) ≤ 64 by omega), (show (m365.1 28) = (m.1 28) + 1 by omega), (show EX (m365.2 65) (m365.2 67) B (m365.1 28) (h + 1) by first | (exact EX_w hEX (by omega)) | (exfalso; omega)), (show agr (m.2 65) (m365.2 65) (m.1 28) by first | (exact hAg) | (exfalso; omega))⟩), rfl⟩
      · skip
        clear c368
        clear h367
        have hf388 : 1 ≤ (m365.1 10) := by omega
        clear g354
        refine Tm_lv (a := [(0, .ref 189), (1, .int (i32 p)), (2, .int (i32 pq)), (3, .int (i32 so)), (4, .int (i32 ((m.2 49) pq))), (5, .int (i32 403)), (6, .int (i32 (pq % 4)))]) rfl rfl ⟨rfl, rfl, rfl, rfl, rfl, rfl, rfl, trivial⟩ ?_
        exact J150_41 pq so ((m.2 49) pq) 403 (pq % 4) (mO m [(7, y345), (8, y347), (9, y349), (10, (m365.1 10)), (11, (m365.1 11)), (12, y355), (28, (m365.1 28)), (69, (m.1 69)), (70, (m.1 70)), (71, (m.1 71)), (72, (m.1 72)), (75, (m.1 75))] [(65, (m365.2 65)), (66, (m365.2 66)), (67, (m365.2 67)), (68, (m365.2 68))]) (r32 (by omega) (by omega)) (r32 (by omega) (by omega)) (r32 (by omega) (by omega)) ⟨by decide, by decide⟩ (r32 (by omega) (by omega)) (Ty_mO hT rfl rfl ⟨g346, g348, g350, (hT366.1 10), (hT366.1 11), g356, (hT366.1 28), f69, f70, f71, f72, f75, trivial⟩ ⟨(hT366.2.1 65), (hT366.2.1 66), (hT366.2.1 67), (hT366.2.1 68), trivial⟩) (show (-2147483648) ≤ pq by omega) (show pq ≤ 2147483647 by omega) (show 0 ≤ ((m.2 49) pq) by omega) (show ((m.2 49) pq) ≤ 64 by omega) (show 401 ≤ (403 : Int) by omega) (show (403 : Int) ≤ 403 by omega) (show 1 ≤ (m365.1 10) by omega) (show (m365.1 10) ≤ 8 by omega)
    · skip
      replace h357 : LxP y345 y347 y349 (m.1 6) y351 := h357
      have hLx := h357
      clear h358
      replace h359 : (m.1 8) ≤ y347 := h359
      clear h360
      have hf389 : 1 ≤ y351 := by omega
      refine T_goto 139 rfl (fun _ => rfl) ?_
      refine T_ld 140 (.ref 189) rfl (fun _ => rfl) ?_
      refine T_ld 142 (.int (i32 403)) rfl (fun _ => rfl) ?_
      refine T_ld 144 (.int (i32 ((m.2 49) pq))) rfl (fun _ => rfl) ?_
      refine T_ld 146 (.int (i32 (pq % 4))) rfl (fun _ => rfl) ?_
      refine T_ld 147 (.long (i64 0)) rfl (fun _ => rfl) ?_
      refine T_call 150 248 [.ref 189, .int (i32 403), .int (i32 ((m.2 49) pq)), .int (i32 (pq % 4)), .long (i64 0)] [] rfl (fun _ => rfl) rfl (c_node w (mO m [(7, y345), (8, y347), (9, y349), (10, y351), (11, y353), (12, y355), (28, (m.1 28)), (69, (m.1 69)), (70, (m.1 70)), (71, (m.1 71)), (72, (m.1 72)), (75, (m.1 75))] [(65, (m.2 65)), (66, (m.2 66)), (67, (m.2 67)), (68, (m.2 68))]) c N D (by omega) (Ty_mO hT rfl rfl ⟨g346, g348, g350, g352, g354, g356, f28, f69, f70, f71, f72, f75, trivial⟩ ⟨(hT.2.1 65), (hT.2.1 66), (hT.2.1 67), (hT.2.1 68), trivial⟩) 403 ((m.2 49) pq) (pq % 4) 0 B h ⟨by decide, by decide⟩ (r32 (by omega) (by omega)) (r32 (by omega) (by omega)) ⟨by decide, by decide⟩ (fun (h : y351 = 0) => absurd h (by omega))) (fun rr390 k391 => ?_)
      obtain ⟨m392, hT393, h394, c395, rfl⟩ := k391
      refine ⟨_, _, rfl, ?_⟩
      refine T_nf2 (st' := []) (l' := [(7, y345), (8, y347), (9, y349), (10, (m392.1 10)), (11, (m392.1 11)), (12, y355), (28, (m392.1 28)), (69, (m.1 69)), (70, (m.1 70)), (71, (m.1 71)), (72, (m.1 72)), (75, (m.1 75))]) (a' := [(65, (m392.2 65)), (66, (m392.2 66)), (67, (m392.2 67)), (68, (m392.2 68))]) [10, 11, 28] [65, 66, 67, 68] rfl ⟨rfl, rfl, rfl, rfl, rfl, rfl, rfl, rfl, rfl, rfl, rfl, rfl, rfl, rfl, rfl, rfl, rfl, rfl, rfl, rfl, rfl, rfl, rfl, rfl, rfl, rfl, rfl, rfl, trivial⟩ ⟨rfl, rfl, rfl, rfl, rfl, rfl, rfl, rfl, trivial⟩ rfl rfl (by decide) (by decide) ?_
      have g396 : 0 ≤ m392.1 10 ∧ m392.1 10 ≤ 8 := hT393.1 10
      have g397 : (-1) ≤ m392.1 11 ∧ m392.1 11 ≤ 4000 := hT393.1 11
      have g398 : 0 ≤ m392.1 28 ∧ m392.1 28 ≤ 800 := hT393.1 28
      replace h394 : (m392.1 10) = 0 → y351 = 0 := h394
      have hf399 : 1 ≤ (m392.1 10) := by omega
      clear c395
      clear h394
      clear g352 g354 h357 hf389
      refine Tm_lv (a := [(0, .ref 189), (1, .int (i32 p)), (2, .int (i32 pq)), (3, .int (i32 so)), (4, .int (i32 ((m.2 49) pq))), (5, .int (i32 403)), (6, .int (i32 (pq % 4)))]) rfl rfl ⟨rfl, rfl, rfl, rfl, rfl, rfl, rfl, trivial⟩ ?_
      exact J150_41 pq so ((m.2 49) pq) 403 (pq % 4) (mO m [(7, y345), (8, y347), (9, y349), (10, (m392.1 10)), (11, (m392.1 11)), (12, y355), (28, (m392.1 28)), (69, (m.1 69)), (70, (m.1 70)), (71, (m.1 71)), (72, (m.1 72)), (75, (m.1 75))] [(65, (m392.2 65)), (66, (m392.2 66)), (67, (m392.2 67)), (68, (m392.2 68))]) (r32 (by omega) (by omega)) (r32 (by omega) (by omega)) (r32 (by omega) (by omega)) ⟨by decide, by decide⟩ (r32 (by omega) (by omega)) (Ty_mO hT rfl rfl ⟨g346, g348, g350, (hT393.1 10), (hT393.1 11), g356, (hT393.1 28), f69, f70, f71, f72, f75, trivial⟩ ⟨(hT393.2.1 65), (hT393.2.1 66), (hT393.2.1 67), (hT393.2.1 68), trivial⟩) (show (-2147483648) ≤ pq by omega) (show pq ≤ 2147483647 by omega) (show 0 ≤ ((m.2 49) pq) by omega) (show ((m.2 49) pq) ≤ 64 by omega) (show 401 ≤ (403 : Int) by omega) (show (403 : Int) ≤ 403 by omega) (show 1 ≤ (m392.1 10) by omega) (show (m392.1 10) ≤ 8 by omega)
def Q_wantUnit (m : mR) (c : Nat → Option am_C) (N : Nat) (B : Int) : ag_Re af_T → Prop := fun R => ∃ (M : mR), Ty M ∧ ((M.1 10) = 0 → (m.1 10) = 0) ∧ (LxP (M.1 7) (M.1 8) (M.1 9) (m.1 6) (M.1 10)) ∧ (M.1 10 = 0 → ((m.1 8) + 1 ≤ (M.1 8)) ∧ ((M.1 75) = 0 ∨ ((M.1 75) = 1 ∧ (M.1 69) ≤ 64)) ∧ (1 ≤ (M.1 73)) ∧ ((m.1 28) ≤ (M.1 28)) ∧ (XS (M.2 65) (M.2 67) (M.2 76) (M.2 78) (M.2 79) (M.2 80) B (M.1 28) (M.1 73) (M.1 74) (um (M.1 75))) ∧ (agr (m.2 65) (M.2 65) (m.1 28))) ∧ R = (.inl (none), (mhp (mO m [(7, (M.1 7)), (8, (M.1 8)), (9, (M.1 9)), (10, (M.1 10)), (11, (M.1 11)), (12, (M.1 12)), (28, (M.1 28)), (69, (M.1 69)), (70, (M.1 70)), (71, (M.1 71)), (72, (M.1 72)), (73, (M.1 73)), (74, (M.1 74)), (75, (M.1 75))] [(65, (M.2 65)), (66, (M.2 66)), (67, (M.2 67)), (68, (M.2 68)), (76, (M.2 76)), (77, (M.2 77)), (78, (M.2 78)), (79, (M.2 79)), (80, (M.2 80))]) c, N), 0, 0)
set_option maxHeartbeats 8000000 in
theorem c_wantUnit (w : wX) (m : mR) (c : Nat → Option am_C) (N D : Nat) (hD : 8 ≤ D) (hT : Ty m) (B : Int) (hLx0 : LxP (m.1 7) (m.1 8) (m.1 9) (m.1 6) (m.1 10)) (hNM0 : ∀ k, (m.2 14) k + (m.2 15) k ≤ 4000) (hFA0 : ∀ k, (m.2 31) k + (m.2 32) k ≤ 4000) (hPA0 : ∀ k, (m.2 47) k + (m.2 48) k ≤ 4000) (hf0 : m.1 10 = 0) (hC : (PN (m.1 13) (m.1 19) (m.1 20) (m.1 21) (m.1 22) (m.1 23) (m.1 25) (m.1 26) (m.2 16) (m.2 17)) ∧ (XS (m.2 65) (m.2 67) (m.2 76) (m.2 78) (m.2 79) (m.2 80) B (m.1 28) (m.1 73) (m.1 74) 0) ∧ (1 ≤ (m.1 73)) ∧ ((m.1 75) = 0)) : TC w D 247 [.ref 189] (mhp m c, N) (Q_wantUnit m c N B) := by
  obtain ⟨D, rfl⟩ : ∃ k, D = k + 1 := ⟨D - 1, by omega⟩
  have hLx := hLx0
  have hNM := hNM0
  have hFA := hFA0
  have hPA := hPA0
  have f7 : 0 ≤ m.1 7 ∧ m.1 7 ≤ 330 := hT.1 7
  have f8 : 0 ≤ m.1 8 ∧ m.1 8 ≤ 4000 := hT.1 8
  have f9 : 0 ≤ m.1 9 ∧ m.1 9 ≤ 4000 := hT.1 9
  have f10 : 0 ≤ m.1 10 ∧ m.1 10 ≤ 8 := hT.1 10
  have f11 : (-1) ≤ m.1 11 ∧ m.1 11 ≤ 4000 := hT.1 11
  have f12 : (-9223372036854775808) ≤ m.1 12 ∧ m.1 12 ≤ 9223372036854775807 := hT.1 12
  have f28 : 0 ≤ m.1 28 ∧ m.1 28 ≤ 800 := hT.1 28
  have f69 : 0 ≤ m.1 69 ∧ m.1 69 ≤ 1024 := hT.1 69
  have f70 : 0 ≤ m.1 70 ∧ m.1 70 ≤ 4000 := hT.1 70
  have f71 : 0 ≤ m.1 71 ∧ m.1 71 ≤ 1 := hT.1 71
  have f72 : (-9223372036854775808) ≤ m.1 72 ∧ m.1 72 ≤ 9223372036854775807 := hT.1 72
  have f73 : 0 ≤ m.1 73 ∧ m.1 73 ≤ 60 := hT.1 73
  have f74 : 0 ≤ m.1 74 ∧ m.1 74 ≤ 24 := hT.1 74
  have f75 : 0 ≤ m.1 75 ∧ m.1 75 ≤ 3 := hT.1 75
  have f25 : 0 ≤ m.1 25 ∧ m.1 25 ≤ 16 := hT.1 25
  have f22 : 0 ≤ m.1 22 ∧ m.1 22 ≤ 8 := hT.1 22
  have f19 : 0 ≤ m.1 19 ∧ m.1 19 ≤ 12 := hT.1 19
  have f20 : 0 ≤ m.1 20 ∧ m.1 20 ≤ 12 := hT.1 20
  have f21 : 0 ≤ m.1 21 ∧ m.1 21 ≤ 16 := hT.1 21
  have f13 : 0 ≤ m.1 13 ∧ m.1 13 ≤ 120 := hT.1 13
  have f6 : 0 ≤ m.1 6 ∧ m.1 6 ≤ 4000 := hT.1 6
  have f23 : 0 ≤ m.1 23 ∧ m.1 23 ≤ 16 := hT.1 23
  have f26 : 0 ≤ m.1 26 ∧ m.1 26 ≤ 8 := hT.1 26
  refine Tc_of rfl ?_
  show TT w D pm_247 (0, [(0, .ref 189)], [], (mhp m c, N), 0, 0) (Q_wantUnit m c N B)
  rw [show (mhp m c, N) = (mhp (mO m [(7, (m.1 7)), (8, (m.1 8)), (9, (m.1 9)), (10, (m.1 10)), (11, (m.1 11)), (12, (m.1 12)), (28, (m.1 28)), (69, (m.1 69)), (70, (m.1 70)), (71, (m.1 71)), (72, (m.1 72)), (73, (m.1 73)), (74, (m.1 74)), (75, (m.1 75))] [(65, (m.2 65)), (66, (m.2 66)), (67, (m.2 67)), (68, (m.2 68)), (76, (m.2 76)), (77, (m.2 77)), (78, (m.2 78)), (79, (m.2 79)), (80, (m.2 80))]) c, N) from congrArg (fun M => (mhp M c, N)) (mO_pad m [7, 8, 9, 10, 11, 12, 28, 69, 70, 71, 72, 73, 74, 75] [65, 66, 67, 68, 76, 77, 78, 79, 80])]
  obtain ⟨pPN, hXS, c1, c2⟩ := hC
  have h7 := hLx (by omega)
  have hb := OS_hi hXS.1.2
  have hEX := hXS.1.1
  have hl0 : 0 ≤ lh (m.2 79) (m.2 80) (m.1 73) := lh_0 (hT.2.1 79) _ _
  have hAgC := agr_r (m.2 65) (m.1 28)
  have J212_17 : ∀ (m16 : mR), (Ty m16) → (1 ≤ (m16.1 10)) → ((m16.1 10) ≤ 8) → (0 ≤ (m.1 8) ∧ (m.1 8) ≤ 4000) → TT w D pm_247 (212, [(0, .ref 189), (1, .int (i32 (m.1 8)))], [], (mhp (mO m [(7, (m16.1 7)), (8, (m16.1 8)), (9, (m16.1 9)), (10, (m16.1 10)), (11, (m16.1 11)), (12, (m16.1 12)), (28, (m.1 28)), (69, (m.1 69)), (70, (m.1 70)), (71, (m.1 71)), (72, (m.1 72)), (73, (m16.1 73)), (74, (m16.1 74)), (75, (m16.1 75))] [(65, (m.2 65)), (66, (m.2 66)), (67, (m.2 67)), (68, (m.2 68)), (76, (m16.2 76)), (77, (m16.2 77)), (78, (m16.2 78)), (79, (m16.2 79)), (80, (m16.2 80))]) c, N), 0, 0) (Q_wantUnit m c N B) := by
    intro m16 q18 ic19 ic20 ic21
    have q18_7 : 0 ≤ m16.1 7 ∧ m16.1 7 ≤ 330 := q18.1 7
    have q18_8 : 0 ≤ m16.1 8 ∧ m16.1 8 ≤ 4000 := q18.1 8
    have q18_9 : 0 ≤ m16.1 9 ∧ m16.1 9 ≤ 4000 := q18.1 9
    have q18_10 : 0 ≤ m16.1 10 ∧ m16.1 10 ≤ 8 := q18.1 10
    have q18_11 : (-1) ≤ m16.1 11 ∧ m16.1 11 ≤ 4000 := q18.1 11
    have q18_12 : (-9223372036854775808) ≤ m16.1 12 ∧ m16.1 12 ≤ 9223372036854775807 := q18.1 12
    have q18_73 : 0 ≤ m16.1 73 ∧ m16.1 73 ≤ 60 := q18.1 73
    have q18_74 : 0 ≤ m16.1 74 ∧ m16.1 74 ≤ 24 := q18.1 74
    have q18_75 : 0 ≤ m16.1 75 ∧ m16.1 75 ≤ 3 := q18.1 75
    refine T_goto 219 rfl (fun _ => rfl) ?_
    refine T_ret rfl (fun _ => rfl) ?_
    exact ⟨(mO m [(7, (m16.1 7)), (8, (m16.1 8)), (9, (m16.1 9)), (10, (m16.1 10)), (11, (m16.1 11)), (12, (m16.1 12)), (28, (m.1 28)), (69, (m.1 69)), (70, (m.1 70)), (71, (m.1 71)), (72, (m.1 72)), (73, (m16.1 73)), (74, (m16.1 74)), (75, (m16.1 75))] [(65, (m.2 65)), (66, (m.2 66)), (67, (m.2 67)), (68, (m.2 68)), (76, (m16.2 76)), (77, (m16.2 77)), (78, (m16.2 78)), (79, (m16.2 79)), (80, (m16.2 80))]), (Ty_mO hT rfl rfl ⟨(q18.1 7), (q18.1 8), (q18.1 9), (q18.1 10), (q18.1 11), (q18.1 12), f28, f69, f70, f71, f72, (q18.1 73), (q18.1 74), (q18.1 75), trivial⟩ ⟨(hT.2.1 65), (hT.2.1 66), (hT.2.1 67), (hT.2.1 68), (q18.2.1 76), (q18.2.1 77), (q18.2.1 78), (q18.2.1 79), (q18.2.1 80), trivial⟩), (show (m16.1 10) = 0 → (m.1 10) = 0 by omega), (show LxP (m16.1 7) (m16.1 8) (m16.1 9) (m.1 6) (m16.1 10) by first | (first | exact hLx | exact (fun _ => hLx (by omega)) | (intro h9; exfalso; omega)) | (exfalso; omega)), (fun (h : (m16.1 10) = 0) => absurd h (by omega)), rfl⟩
  have J179_25 : ∀ (v23 : Int) (m24 : mR), (R32 v23) → (Ty m24) → (0 ≤ v23) → (v23 ≤ 11) → (1 ≤ (m24.1 10)) → ((m24.1 10) ≤ 8) → (0 ≤ (m.1 8) ∧ (m.1 8) ≤ 4000) → TT w D pm_247 (179, [(0, .ref 189), (1, .int (i32 (m.1 8))), (2, .int (i32 v23))], [], (mhp (mO m [(7, (m24.1 7)), (8, (m24.1 8)), (9, (m24.1 9)), (10, (m24.1 10)), (11, (m24.1 11)), (12, (m24.1 12)), (28, (m24.1 28)), (69, (m.1 69)), (70, (m.1 70)), (71, (m.1 71)), (72, (m.1 72)), (73, (m.1 73)), (74, (m.1 74)), (75, (m.1 75))] [(65, (m24.2 65)), (66, (m24.2 66)), (67, (m24.2 67)), (68, (m24.2 68)), (76, (m.2 76)), (77, (m.2 77)), (78, (m.2 78)), (79, (m.2 79)), (80, (m.2 80))]) c, N), 0, 0) (Q_wantUnit m c N B) := by
    intro v23 m24 q26 q27 ic28 ic29 ic30 ic31 ic32
    obtain ⟨q26a, q26b⟩ := id q26
    have q27_7 : 0 ≤ m24.1 7 ∧ m24.1 7 ≤ 330 := q27.1 7
    have q27_8 : 0 ≤ m24.1 8 ∧ m24.1 8 ≤ 4000 := q27.1 8
    have q27_9 : 0 ≤ m24.1 9 ∧ m24.1 9 ≤ 4000 := q27.1 9
    have q27_10 : 0 ≤ m24.1 10 ∧ m24.1 10 ≤ 8 := q27.1 10
    have q27_11 : (-1) ≤ m24.1 11 ∧ m24.1 11 ≤ 4000 := q27.1 11
    have q27_12 : (-9223372036854775808) ≤ m24.1 12 ∧ m24.1 12 ≤ 9223372036854775807 := q27.1 12
    have q27_28 : 0 ≤ m24.1 28 ∧ m24.1 28 ≤ 800 := q27.1 28
    refine T_ld 180 (.ref 189) rfl (fun _ => rfl) ?_
    refine T_ld 181 (.int (i32 1)) rfl (fun _ => rfl) ?_
    refine T_ld 182 (.int (i32 (m.1 8))) rfl (fun _ => rfl) ?_
    refine T_call 185 249 [.ref 189, .int (i32 1), .int (i32 (m.1 8))] [] rfl (fun _ => rfl) rfl (c_atom w (mO m [(7, (m24.1 7)), (8, (m24.1 8)), (9, (m24.1 9)), (10, (m24.1 10)), (11, (m24.1 11)), (12, (m24.1 12)), (28, (m24.1 28)), (69, (m.1 69)), (70, (m.1 70)), (71, (m.1 71)), (72, (m.1 72)), (73, (m.1 73)), (74, (m.1 74)), (75, (m.1 75))] [(65, (m24.2 65)), (66, (m24.2 66)), (67, (m24.2 67)), (68, (m24.2 68)), (76, (m.2 76)), (77, (m.2 77)), (78, (m.2 78)), (79, (m.2 79)), (80, (m.2 80))]) c N D (by omega) (Ty_mO hT rfl rfl ⟨(q27.1 7), (q27.1 8), (q27.1 9), (q27.1 10), (q27.1 11), (q27.1 12), (q27.1 28), f69, f70, f71, f72, f73, f74, f75, trivial⟩ ⟨(q27.2.1 65), (q27.2.1 66), (q27.2.1 67), (q27.2.1 68), (hT.2.1 76), (hT.2.1 77), (hT.2.1 78), (hT.2.1 79), (hT.2.1 80), trivial⟩) 1 (m.1 8) ⟨by decide, by decide⟩ (r32 (by omega) (by omega)) (show 0 ≤ (1 : Int) ∧ (1 : Int) ≤ 64 by omega) (show 0 ≤ (m.1 8) ∧ (m.1 8) ≤ 4000 by omega)) (fun rr34 k35 => ?_)
    obtain ⟨m36, hT37, h38, rfl⟩ := k35
    refine ⟨_, _, rfl, ?_⟩
    refine T_nf2 (st' := []) (l' := [(7, (m24.1 7)), (8, (m24.1 8)), (9, (m24.1 9)), (10, (m24.1 10)), (11, (m24.1 11)), (12, (m24.1 12)), (28, (m24.1 28)), (69, (m36.1 69)), (70, (m36.1 70)), (71, (m36.1 71)), (72, (m36.1 72)), (73, (m.1 73)), (74, (m.1 74)), (75, (m36.1 75))]) (a' := [(65, (m24.2 65)), (66, (m24.2 66)), (67, (m24.2 67)), (68, (m24.2 68)), (76, (m.2 76)), (77, (m.2 77)), (78, (m.2 78)), (79, (m.2 79)), (80, (m.2 80))]) [69, 70, 71, 72, 75] [] rfl ⟨rfl, rfl, rfl, rfl, rfl, rfl, rfl, rfl, rfl, rfl, rfl, rfl, rfl, rfl, rfl, rfl, rfl, rfl, rfl, rfl, rfl, rfl, rfl, rfl, rfl, rfl, rfl, rfl, rfl, rfl, rfl, rfl, rfl, rfl, rfl, rfl, rfl, trivial⟩ ⟨rfl, rfl, rfl, rfl, rfl, rfl, rfl, rfl, rfl, rfl, rfl, rfl, rfl, rfl, rfl, rfl, rfl, rfl, trivial⟩ rfl rfl (by decide) (by decide) ?_
    have g39 : 0 ≤ m36.1 69 ∧ m36.1 69 ≤ 1024 := hT37.1 69
    have g40 : 0 ≤ m36.1 70 ∧ m36.1 70 ≤ 4000 := hT37.1 70
    have g41 : 0 ≤ m36.1 71 ∧ m36.1 71 ≤ 1 := hT37.1 71
    have g42 : (-9223372036854775808) ≤ m36.1 72 ∧ m36.1 72 ≤ 9223372036854775807 := hT37.1 72
    have g43 : 0 ≤ m36.1 75 ∧ m36.1 75 ≤ 3 := hT37.1 75
    replace h38 : (m24.1 10) = 0 → (m36.1 75) = 1 ∧ (m36.1 69) = (1 : Int) := h38
    refine T_goto 219 rfl (fun _ => rfl) ?_
    refine T_ret rfl (fun _ => rfl) ?_
    exact ⟨(mO m [(7, (m24.1 7)), (8, (m24.1 8)), (9, (m24.1 9)), (10, (m24.1 10)), (11, (m24.1 11)), (12, (m24.1 12)), (28, (m24.1 28)), (69, (m36.1 69)), (70, (m36.1 70)), (71, (m36.1 71)), (72, (m36.1 72)), (73, (m.1 73)), (74, (m.1 74)), (75, (m36.1 75))] [(65, (m24.2 65)), (66, (m24.2 66)), (67, (m24.2 67)), (68, (m24.2 68)), (76, (m.2 76)), (77, (m.2 77)), (78, (m.2 78)), (79, (m.2 79)), (80, (m.2 80))]), (Ty_mO hT rfl rfl ⟨(q27.1 7), (q27.1 8), (q27.1 9), (q27.1 10), (q27.1 11), (q27.1 12), (q27.1 28), (hT37.1 69), (hT37.1 70), (hT37.1 71), (hT37.1 72), f73, f74, (hT37.1 75), trivial⟩ ⟨(q27.2.1 65), (q27.2.1 66), (q27.2.1 67), (q27.2.1 68), (hT.2.1 76), (hT.2.1 77), (hT.2.1 78), (hT.2.1 79), (hT.2.1 80), trivial⟩), (show (m24.1 10) = 0 → (m.1 10) = 0 by omega), (show LxP (m24.1 7) (m24.1 8) (m24.1 9) (m.1 6) (m24.1 10) by first | (first | exact hLx | exact (fun _ => hLx (by omega)) | (intro h9; exfalso; omega)) | (exfalso; omega)), (fun (h : (m24.1 10) = 0) => absurd h (by omega)), rfl⟩
  have J168_46 : ∀ (s44 : Int) (m45 : mR), (R32 s44) → (Ty m45) → (0 ≤ s44) → (s44 ≤ 11) → (1 ≤ (m45.1 10)) → ((m45.1 10) ≤ 8) → (0 ≤ (m.1 8) ∧ (m.1 8) ≤ 4000) → TT w D pm_247 (168, [(0, .ref 189), (1, .int (i32 (m.1 8)))], [.int (i32 s44)], (mhp (mO m [(7, (m45.1 7)), (8, (m45.1 8)), (9, (m45.1 9)), (10, (m45.1 10)), (11, (m45.1 11)), (12, (m45.1 12)), (28, (m.1 28)), (69, (m.1 69)), (70, (m.1 70)), (71, (m.1 71)), (72, (m.1 72)), (73, (m.1 73)), (74, (m.1 74)), (75, (m.1 75))] [(65, (m.2 65)), (66, (m.2 66)), (67, (m.2 67)), (68, (m.2 68)), (76, (m.2 76)), (77, (m.2 77)), (78, (m.2 78)), (79, (m.2 79)), (80, (m.2 80))]) c, N), 0, 0) (Q_wantUnit m c N B) := by
    intro s44 m45 q47 q48 ic49 ic50 ic51 ic52 ic53
    obtain ⟨q47a, q47b⟩ := id q47
    have q48_7 : 0 ≤ m45.1 7 ∧ m45.1 7 ≤ 330 := q48.1 7
    have q48_8 : 0 ≤ m45.1 8 ∧ m45.1 8 ≤ 4000 := q48.1 8
    have q48_9 : 0 ≤ m45.1 9 ∧ m45.1 9 ≤ 4000 := q48.1 9
    have q48_10 : 0 ≤ m45.1 10 ∧ m45.1 10 ≤ 8 := q48.1 10
    have q48_11 : (-1) ≤ m45.1 11 ∧ m45.1 11 ≤ 4000 := q48.1 11
    have q48_12 : (-9223372036854775808) ≤ m45.1 12 ∧ m45.1 12 ≤ 9223372036854775807 := q48.1 12
    refine T_sto 169 [(2, .int (i32 s44)), (0, .ref 189), (1, .int (i32 (m.1 8)))] rfl (fun _ => rfl) ?_
    refine T_ld 170 (.ref 189) rfl (fun _ => rfl) ?_
    refine T_ld 173 (.int (i32 404)) rfl (fun _ => rfl) ?_
    refine T_ld 174 (.int (i32 1)) rfl (fun _ => rfl) ?_
    refine T_ld 175 (.int (i32 s44)) rfl (fun _ => rfl) ?_
    refine T_ld 176 (.long (i64 0)) rfl (fun _ => rfl) ?_
    refine T_call 179 248 [.ref 189, .int (i32 404), .int (i32 1), .int (i32 s44), .long (i64 0)] [] rfl (fun _ => rfl) rfl (c_node w (mO m [(7, (m45.1 7)), (8, (m45.1 8)), (9, (m45.1 9)), (10, (m45.1 10)), (11, (m45.1 11)), (12, (m45.1 12)), (28, (m.1 28)), (69, (m.1 69)), (70, (m.1 70)), (71, (m.1 71)), (72, (m.1 72)), (73, (m.1 73)), (74, (m.1 74)), (75, (m.1 75))] [(65, (m.2 65)), (66, (m.2 66)), (67, (m.2 67)), (68, (m.2 68)), (76, (m.2 76)), (77, (m.2 77)), (78, (m.2 78)), (79, (m.2 79)), (80, (m.2 80))]) c N D (by omega) (Ty_mO hT rfl rfl ⟨(q48.1 7), (q48.1 8), (q48.1 9), (q48.1 10), (q48.1 11), (q48.1 12), f28, f69, f70, f71, f72, f73, f74, f75, trivial⟩ ⟨(hT.2.1 65), (hT.2.1 66), (hT.2.1 67), (hT.2.1 68), (hT.2.1 76), (hT.2.1 77), (hT.2.1 78), (hT.2.1 79), (hT.2.1 80), trivial⟩) 404 1 s44 0 B (0 + lh (m.2 79) (m.2 80) (m.1 73)) ⟨by decide, by decide⟩ ⟨by decide, by decide⟩ (r32 (by omega) (by omega)) ⟨by decide, by decide⟩ (fun (h : (m45.1 10) = 0) => absurd h (by omega))) (fun rr55 k56 => ?_)
    obtain ⟨m57, hT58, h59, c60, rfl⟩ := k56
    refine ⟨_, _, rfl, ?_⟩
    refine T_nf2 (st' := []) (l' := [(7, (m45.1 7)), (8, (m45.1 8)), (9, (m45.1 9)), (10, (m57.1 10)), (11, (m57.1 11)), (12, (m45.1 12)), (28, (m57.1 28)), (69, (m.1 69)), (70, (m.1 70)), (71, (m.1 71)), (72, (m.1 72)), (73, (m.1 73)), (74, (m.1 74)), (75, (m.1 75))]) (a' := [(65, (m57.2 65)), (66, (m57.2 66)), (67, (m57.2 67)), (68, (m57.2 68)), (76, (m.2 76)), (77, (m.2 77)), (78, (m.2 78)), (79, (m.2 79)), (80, (m.2 80))]) [10, 11, 28] [65, 66, 67, 68] rfl ⟨rfl, rfl, rfl, rfl, rfl, rfl, rfl, rfl, rfl, rfl, rfl, rfl, rfl, rfl, rfl, rfl, rfl, rfl, rfl, rfl, rfl, rfl, rfl, rfl, rfl, rfl, rfl, rfl, rfl, rfl, rfl, rfl, trivial⟩ ⟨rfl, rfl, rfl, rfl, rfl, rfl, rfl, rfl, rfl, rfl, rfl, rfl, rfl, rfl, rfl, rfl, rfl, rfl, trivial⟩ rfl rfl (by decide) (by decide) ?_
    have g61 : 0 ≤ m57.1 10 ∧ m57.1 10 ≤ 8 := hT58.1 10
    have g62 : (-1) ≤ m57.1 11 ∧ m57.1 11 ≤ 4000 := hT58.1 11
    have g63 : 0 ≤ m57.1 28 ∧ m57.1 28 ≤ 800 := hT58.1 28
    replace h59 : (m57.1 10) = 0 → (m45.1 10) = 0 := h59
    have hf64 : 1 ≤ (m57.1 10) := by omega
    clear c60
    clear h59
    clear q48_10 q48_11 ic51 ic52
    refine Tm_lv (a := [(0, .ref 189), (1, .int (i32 (m.1 8))), (2, .int (i32 s44))]) rfl rfl ⟨rfl, rfl, rfl, trivial⟩ ?_
    exact J179_25 s44 (mO m [(7, (m45.1 7)), (8, (m45.1 8)), (9, (m45.1 9)), (10, (m57.1 10)), (11, (m57.1 11)), (12, (m45.1 12)), (28, (m57.1 28)), (69, (m.1 69)), (70, (m.1 70)), (71, (m.1 71)), (72, (m.1 72)), (73, (m.1 73)), (74, (m.1 74)), (75, (m.1 75))] [(65, (m57.2 65)), (66, (m57.2 66)), (67, (m57.2 67)), (68, (m57.2 68)), (76, (m.2 76)), (77, (m.2 77)), (78, (m.2 78)), (79, (m.2 79)), (80, (m.2 80))]) (r32 (by omega) (by omega)) (Ty_mO hT rfl rfl ⟨(q48.1 7), (q48.1 8), (q48.1 9), (hT58.1 10), (hT58.1 11), (q48.1 12), (hT58.1 28), f69, f70, f71, f72, f73, f74, f75, trivial⟩ ⟨(hT58.2.1 65), (hT58.2.1 66), (hT58.2.1 67), (hT58.2.1 68), (hT.2.1 76), (hT.2.1 77), (hT.2.1 78), (hT.2.1 79), (hT.2.1 80), trivial⟩) (show 0 ≤ s44 by omega) (show s44 ≤ 11 by omega) (show 1 ≤ (m57.1 10) by omega) (show (m57.1 10) ≤ 8 by omega) (show 0 ≤ (m.1 8) ∧ (m.1 8) ≤ 4000 by omega)
  have J113_66 : ∀ (m65 : mR), (Ty m65) → (1 ≤ (m65.1 10)) → ((m65.1 10) ≤ 8) → (0 ≤ (m.1 8) ∧ (m.1 8) ≤ 4000) → TT w D pm_247 (113, [(0, .ref 189), (1, .int (i32 (m.1 8))), (2, .long (i64 (m.1 12)))], [], (mhp (mO m [(7, (m65.1 7)), (8, (m65.1 8)), (9, (m65.1 9)), (10, (m65.1 10)), (11, (m65.1 11)), (12, (m65.1 12)), (28, (m65.1 28)), (69, (m.1 69)), (70, (m.1 70)), (71, (m.1 71)), (72, (m.1 72)), (73, (m.1 73)), (74, (m.1 74)), (75, (m.1 75))] [(65, (m65.2 65)), (66, (m65.2 66)), (67, (m65.2 67)), (68, (m65.2 68)), (76, (m.2 76)), (77, (m.2 77)), (78, (m.2 78)), (79, (m.2 79)), (80, (m.2 80))]) c, N), 0, 0) (Q_wantUnit m c N B) := by
    intro m65 q67 ic68 ic69 ic70
    have q67_7 : 0 ≤ m65.1 7 ∧ m65.1 7 ≤ 330 := q67.1 7
    have q67_8 : 0 ≤ m65.1 8 ∧ m65.1 8 ≤ 4000 := q67.1 8
    have q67_9 : 0 ≤ m65.1 9 ∧ m65.1 9 ≤ 4000 := q67.1 9
    have q67_10 : 0 ≤ m65.1 10 ∧ m65.1 10 ≤ 8 := q67.1 10
    have q67_11 : (-1) ≤ m65.1 11 ∧ m65.1 11 ≤ 4000 := q67.1 11
    have q67_12 : (-9223372036854775808) ≤ m65.1 12 ∧ m65.1 12 ≤ 9223372036854775807 := q67.1 12
    have q67_28 : 0 ≤ m65.1 28 ∧ m65.1 28 ≤ 800 := q67.1 28
    refine T_ld 114 (.ref 189) rfl (fun _ => rfl) ?_
    refine T_ld 116 (.int (i32 64)) rfl (fun _ => rfl) ?_
    refine T_ld 117 (.int (i32 (m.1 8))) rfl (fun _ => rfl) ?_
    refine T_call 120 249 [.ref 189, .int (i32 64), .int (i32 (m.1 8))] [] rfl (fun _ => rfl) rfl (c_atom w (mO m [(7, (m65.1 7)), (8, (m65.1 8)), (9, (m65.1 9)), (10, (m65.1 10)), (11, (m65.1 11)), (12, (m65.1 12)), (28, (m65.1 28)), (69, (m.1 69)), (70, (m.1 70)), (71, (m.1 71)), (72, (m.1 72)), (73, (m.1 73)), (74, (m.1 74)), (75, (m.1 75))] [(65, (m65.2 65)), (66, (m65.2 66)), (67, (m65.2 67)), (68, (m65.2 68)), (76, (m.2 76)), (77, (m.2 77)), (78, (m.2 78)), (79, (m.2 79)), (80, (m.2 80))]) c N D (by omega) (Ty_mO hT rfl rfl ⟨(q67.1 7), (q67.1 8), (q67.1 9), (q67.1 10), (q67.1 11), (q67.1 12), (q67.1 28), f69, f70, f71, f72, f73, f74, f75, trivial⟩ ⟨(q67.2.1 65), (q67.2.1 66), (q67.2.1 67), (q67.2.1 68), (hT.2.1 76), (hT.2.1 77), (hT.2.1 78), (hT.2.1 79), (hT.2.1 80), trivial⟩) 64 (m.1 8) ⟨by decide, by decide⟩ (r32 (by omega) (by omega)) (show 0 ≤ (64 : Int) ∧ (64 : Int) ≤ 64 by omega) (show 0 ≤ (m.1 8) ∧ (m.1 8) ≤ 4000 by omega)) (fun rr72 k73 => ?_)
    obtain ⟨m74, hT75, h76, rfl⟩ := k73
    refine ⟨_, _, rfl, ?_⟩
    refine T_nf2 (st' := []) (l' := [(7, (m65.1 7)), (8, (m65.1 8)), (9, (m65.1 9)), (10, (m65.1 10)), (11, (m65.1 11)), (12, (m65.1 12)), (28, (m65.1 28)), (69, (m74.1 69)), (70, (m74.1 70)), (71, (m74.1 71)), (72, (m74.1 72)), (73, (m.1 73)), (74, (m.1 74)), (75, (m74.1 75))]) (a' := [(65, (m65.2 65)), (66, (m65.2 66)), (67, (m65.2 67)), (68, (m65.2 68)), (76, (m.2 76)), (77, (m.2 77)), (78, (m.2 78)), (79, (m.2 79)), (80, (m.2 80))]) [69, 70, 71, 72, 75] [] rfl ⟨rfl, rfl, rfl, rfl, rfl, rfl, rfl, rfl, rfl, rfl, rfl, rfl, rfl, rfl, rfl, rfl, rfl, rfl, rfl, rfl, rfl, rfl, rfl, rfl, rfl, rfl, rfl, rfl, rfl, rfl, rfl, rfl, rfl, rfl, rfl, rfl, rfl, trivial⟩ ⟨rfl, rfl, rfl, rfl, rfl, rfl, rfl, rfl, rfl, rfl, rfl, rfl, rfl, rfl, rfl, rfl, rfl, rfl, trivial⟩ rfl rfl (by decide) (by decide) ?_
    have g77 : 0 ≤ m74.1 69 ∧ m74.1 69 ≤ 1024 := hT75.1 69
    have g78 : 0 ≤ m74.1 70 ∧ m74.1 70 ≤ 4000 := hT75.1 70
    have g79 : 0 ≤ m74.1 71 ∧ m74.1 71 ≤ 1 := hT75.1 71
    have g80 : (-9223372036854775808) ≤ m74.1 72 ∧ m74.1 72 ≤ 9223372036854775807 := hT75.1 72
    have g81 : 0 ≤ m74.1 75 ∧ m74.1 75 ≤ 3 := hT75.1 75
    replace h76 : (m65.1 10) = 0 → (m74.1 75) = 1 ∧ (m74.1 69) = (64 : Int) := h76
    refine T_ld 121 (.ref 189) rfl (fun _ => rfl) ?_
    refine T_ld 122 (.int (i32 1)) rfl (fun _ => rfl) ?_
    refine T_pf (l' := [(7, (m65.1 7)), (8, (m65.1 8)), (9, (m65.1 9)), (10, (m65.1 10)), (11, (m65.1 11)), (12, (m65.1 12)), (28, (m65.1 28)), (69, (m74.1 69)), (70, (m74.1 70)), (71, 1), (72, (m74.1 72)), (73, (m.1 73)), (74, (m.1 74)), (75, (m74.1 75))]) 125 1 rfl rfl rfl rfl rfl rfl ?_
    refine T_ld 126 (.ref 189) rfl (fun _ => rfl) ?_
    refine T_ld 127 (.long (i64 (m.1 12))) rfl (fun _ => rfl) ?_
    refine T_pf (l' := [(7, (m65.1 7)), (8, (m65.1 8)), (9, (m65.1 9)), (10, (m65.1 10)), (11, (m65.1 11)), (12, (m65.1 12)), (28, (m65.1 28)), (69, (m74.1 69)), (70, (m74.1 70)), (71, 1), (72, (m.1 12)), (73, (m.1 73)), (74, (m.1 74)), (75, (m74.1 75))]) 130 (m.1 12) rfl rfl rfl rfl rfl rfl ?_
    have g82 : (-9223372036854775808) ≤ (m.1 12) ∧ (m.1 12) ≤ 9223372036854775807 := ⟨by omega, by omega⟩
    refine T_goto 219 rfl (fun _ => rfl) ?_
    refine T_ret rfl (fun _ => rfl) ?_
    exact ⟨(mO m [(7, (m65.1 7)), (8, (m65.1 8)), (9, (m65.1 9)), (10, (m65.1 10)), (11, (m65.1 11)), (12, (m65.1 12)), (28, (m65.1 28)), (69, (m74.1 69)), (70, (m74.1 70)), (71, 1), (72, (m.1 12)), (73, (m.1 73)), (74, (m.1 74)), (75, (m74.1 75))] [(65, (m65.2 65)), (66, (m65.2 66)), (67, (m65.2 67)), (68, (m65.2 68)), (76, (m.2 76)), (77, (m.2 77)), (78, (m.2 78)), (79, (m.2 79)), (80, (m.2 80))]), (Ty_mO hT rfl rfl ⟨(q67.1 7), (q67.1 8), (q67.1 9), (q67.1 10), (q67.1 11), (q67.1 12), (q67.1 28), (hT75.1 69), (hT75.1 70), ⟨(by omega : (0 : Int) ≤ 1), (by omega : (1 : Int) ≤ 1)⟩, g82, f73, f74, (hT75.1 75), trivial⟩ ⟨(q67.2.1 65), (q67.2.1 66), (q67.2.1 67), (q67.2.1 68), (hT.2.1 76), (hT.2.1 77), (hT.2.1 78), (hT.2.1 79), (hT.2.1 80), trivial⟩), (show (m65.1 10) = 0 → (m.1 10) = 0 by omega), (show LxP (m65.1 7) (m65.1 8) (m65.1 9) (m.1 6) (m65.1 10) by first | (first | exact hLx | exact (fun _ => hLx (by omega)) | (intro h9; exfalso; omega)) | (exfalso; omega)), (fun (h : (m65.1 10) = 0) => absurd h (by omega)), rfl⟩
  have J82_84 : ∀ (m83 : mR), (Ty m83) → (1 ≤ (m83.1 10)) → ((m83.1 10) ≤ 8) → (0 ≤ ((m.1 74) + 1) ∧ ((m.1 74) + 1) ≤ 24) → (0 ≤ (m.1 8) ∧ (m.1 8) ≤ 4000) → TT w D pm_247 (82, [(0, .ref 189), (1, .int (i32 (m.1 8)))], [], (mhp (mO m [(7, (m83.1 7)), (8, (m83.1 8)), (9, (m83.1 9)), (10, (m83.1 10)), (11, (m83.1 11)), (12, (m83.1 12)), (28, (m.1 28)), (69, (m.1 69)), (70, (m.1 70)), (71, (m.1 71)), (72, (m.1 72)), (73, (m83.1 73)), (74, (m.1 74) + 1), (75, (m.1 75))] [(65, (m.2 65)), (66, (m.2 66)), (67, (m.2 67)), (68, (m.2 68)), (76, (m83.2 76)), (77, (m83.2 77)), (78, (m83.2 78)), (79, (m83.2 79)), (80, (m83.2 80))]) c, N), 0, 0) (Q_wantUnit m c N B) := by
    intro m83 q85 ic86 ic87 ic88 ic89
    have q85_7 : 0 ≤ m83.1 7 ∧ m83.1 7 ≤ 330 := q85.1 7
    have q85_8 : 0 ≤ m83.1 8 ∧ m83.1 8 ≤ 4000 := q85.1 8
    have q85_9 : 0 ≤ m83.1 9 ∧ m83.1 9 ≤ 4000 := q85.1 9
    have q85_10 : 0 ≤ m83.1 10 ∧ m83.1 10 ≤ 8 := q85.1 10
    have q85_11 : (-1) ≤ m83.1 11 ∧ m83.1 11 ≤ 4000 := q85.1 11
    have q85_12 : (-9223372036854775808) ≤ m83.1 12 ∧ m83.1 12 ≤ 9223372036854775807 := q85.1 12
    have q85_73 : 0 ≤ m83.1 73 ∧ m83.1 73 ≤ 60 := q85.1 73
    refine T_goto 219 rfl (fun _ => rfl) ?_
    refine T_ret rfl (fun _ => rfl) ?_
    exact ⟨(mO m [(7, (m83.1 7)), (8, (m83.1 8)), (9, (m83.1 9)), (10, (m83.1 10)), (11, (m83.1 11)), (12, (m83.1 12)), (28, (m.1 28)), (69, (m.1 69)), (70, (m.1 70)), (71, (m.1 71)), (72, (m.1 72)), (73, (m83.1 73)), (74, (m.1 74) + 1), (75, (m.1 75))] [(65, (m.2 65)), (66, (m.2 66)), (67, (m.2 67)), (68, (m.2 68)), (76, (m83.2 76)), (77, (m83.2 77)), (78, (m83.2 78)), (79, (m83.2 79)), (80, (m83.2 80))]), (Ty_mO hT rfl rfl ⟨(q85.1 7), (q85.1 8), (q85.1 9), (q85.1 10), (q85.1 11), (q85.1 12), f28, f69, f70, f71, f72, (q85.1 73), ⟨(by omega : (0 : Int) ≤ (m.1 74) + 1), (by omega : ((m.1 74) + 1 : Int) ≤ 24)⟩, f75, trivial⟩ ⟨(hT.2.1 65), (hT.2.1 66), (hT.2.1 67), (hT.2.1 68), (q85.2.1 76), (q85.2.1 77), (q85.2.1 78), (q85.2.1 79), (q85.2.1 80), trivial⟩), (show (m83.1 10) = 0 → (m.1 10) = 0 by omega), (show LxP (m83.1 7) (m83.1 8) (m83.1 9) (m.1 6) (m83.1 10) by first | (first | exact hLx | exact (fun _ => hLx (by omega)) | (intro h9; exfalso; omega)) | (exfalso; omega)), (fun (h : (m83.1 10) = 0) => absurd h (by omega)), rfl⟩
  have J50_92 : ∀ (m91 : mR), (Ty m91) → (1 ≤ (m91.1 10)) → ((m91.1 10) ≤ 8) → (0 ≤ (m.1 8) ∧ (m.1 8) ≤ 4000) → TT w D pm_247 (50, [(0, .ref 189), (1, .int (i32 (m.1 8)))], [], (mhp (mO m [(7, (m.1 7)), (8, (m.1 8)), (9, (m.1 9)), (10, (m91.1 10)), (11, (m91.1 11)), (12, (m.1 12)), (28, (m.1 28)), (69, (m.1 69)), (70, (m.1 70)), (71, (m.1 71)), (72, (m.1 72)), (73, (m.1 73)), (74, (m.1 74)), (75, (m.1 75))] [(65, (m.2 65)), (66, (m.2 66)), (67, (m.2 67)), (68, (m.2 68)), (76, (m.2 76)), (77, (m.2 77)), (78, (m.2 78)), (79, (m.2 79)), (80, (m.2 80))]) c, N), 0, 0) (Q_wantUnit m c N B) := by
    intro m91 q93 ic94 ic95 ic96
    have q93_10 : 0 ≤ m91.1 10 ∧ m91.1 10 ≤ 8 := q93.1 10
    have q93_11 : (-1) ≤ m91.1 11 ∧ m91.1 11 ≤ 4000 := q93.1 11
    refine T_gf 54 (.int (i32 (m91.1 10))) rfl rfl rfl rfl rfl rfl ?_
    refine T_if 58 57 rfl rfl rfl (r32 (by omega) (by omega)) (fun (h98 : (m91.1 10) ≤ 0) => by exfalso; omega) (fun (h98 : ¬ ((m91.1 10) ≤ 0)) => ?_)
    refine T_ret rfl (fun _ => rfl) ?_
    exact ⟨(mO m [(7, (m.1 7)), (8, (m.1 8)), (9, (m.1 9)), (10, (m91.1 10)), (11, (m91.1 11)), (12, (m.1 12)), (28, (m.1 28)), (69, (m.1 69)), (70, (m.1 70)), (71, (m.1 71)), (72, (m.1 72)), (73, (m.1 73)), (74, (m.1 74)), (75, (m.1 75))] [(65, (m.2 65)), (66, (m.2 66)), (67, (m.2 67)), (68, (m.2 68)), (76, (m.2 76)), (77, (m.2 77)), (78, (m.2 78)), (79, (m.2 79)), (80, (m.2 80))]), (Ty_mO hT rfl rfl ⟨f7, f8, f9, (q93.1 10), (q93.1 11), f12, f28, f69, f70, f71, f72, f73, f74, f75, trivial⟩ ⟨(hT.2.1 65), (hT.2.1 66), (hT.2.1 67), (hT.2.1 68), (hT.2.1 76), (hT.2.1 77), (hT.2.1 78), (hT.2.1 79), (hT.2.1 80), trivial⟩), (show (m91.1 10) = 0 → (m.1 10) = 0 by omega), (show LxP (m.1 7) (m.1 8) (m.1 9) (m.1 6) (m91.1 10) by first | (first | exact hLx | exact (fun _ => hLx (by omega)) | (intro h9; exfalso; omega)) | (exfalso; omega)), (fun (h : (m91.1 10) = 0) => absurd h (by omega)), rfl⟩
  refine T_gf 4 (.int (i32 (m.1 8))) rfl rfl rfl rfl rfl rfl ?_
  refine T_sto 5 [(1, .int (i32 (m.1 8))), (0, .ref 189)] rfl (fun _ => rfl) ?_
  refine T_gf 9 (.int (i32 (m.1 7))) rfl rfl rfl rfl rfl rfl ?_
  refine T_ld 11 (.int (i32 126)) rfl (fun _ => rfl) ?_
  refine T_icmp 32 14 rfl rfl rfl (r32 (by omega) (by omega)) ⟨by decide, by decide⟩ (fun (h99 : (m.1 7) = 126) => ?_) (fun (h99 : ¬ ((m.1 7) = 126)) => ?_)
  · skip
    refine T_gf 36 (.int (i32 (m.1 74))) rfl rfl rfl rfl rfl rfl ?_
    refine T_ld 38 (.int (i32 24)) rfl (fun _ => rfl) ?_
    refine T_icmp 50 41 rfl rfl rfl (r32 (by omega) (by omega)) ⟨by decide, by decide⟩ (fun (h100 : (m.1 74) ≠ 24) => ?_) (fun (h100 : ¬ ((m.1 74) ≠ 24)) => ?_)
    · skip
      refine T_gf 54 (.int (i32 (m.1 10))) rfl rfl rfl rfl rfl rfl ?_
      refine T_if 58 57 rfl rfl rfl (r32 (by omega) (by omega)) (fun (h101 : (m.1 10) ≤ 0) => ?_) (fun (h101 : ¬ ((m.1 10) ≤ 0)) => by exfalso; omega)
      refine T_ld 59 (.ref 189) rfl (fun _ => rfl) ?_
      refine T_ld 60 (.ref 189) rfl (fun _ => rfl) ?_
      refine T_gf1 63 (.int (i32 (m.1 74))) rfl rfl rfl rfl ?_
      refine T_ld 64 (.int (i32 1)) rfl (fun _ => rfl) ?_
      refine T_iadd 65 rfl rfl ?_
      refine T_pf (l' := [(7, (m.1 7)), (8, (m.1 8)), (9, (m.1 9)), (10, (m.1 10)), (11, (m.1 11)), (12, (m.1 12)), (28, (m.1 28)), (69, (m.1 69)), (70, (m.1 70)), (71, (m.1 71)), (72, (m.1 72)), (73, (m.1 73)), (74, (m.1 74) + 1), (75, (m.1 75))]) 68 ((m.1 74) + 1) rfl rfl rfl rfl rfl rfl ?_
      have g102 : 0 ≤ (m.1 74) + 1 ∧ (m.1 74) + 1 ≤ 24 := ⟨by omega, by omega⟩
      refine T_ld 69 (.ref 189) rfl (fun _ => rfl) ?_
      refine T_ld 70 (.int (i32 1)) rfl (fun _ => rfl) ?_
      refine T_ld 71 (.int (i32 (m.1 8))) rfl (fun _ => rfl) ?_
      refine T_gf 75 (.int (i32 (m.1 7))) rfl rfl rfl rfl rfl rfl ?_
      refine T_call 78 246 [.ref 189, .int (i32 1), .int (i32 (m.1 8)), .int (i32 (m.1 7))] [] rfl (fun _ => rfl) rfl (c_open w (mO m [(7, (m.1 7)), (8, (m.1 8)), (9, (m.1 9)), (10, (m.1 10)), (11, (m.1 11)), (12, (m.1 12)), (28, (m.1 28)), (69, (m.1 69)), (70, (m.1 70)), (71, (m.1 71)), (72, (m.1 72)), (73, (m.1 73)), (74, (m.1 74) + 1), (75, (m.1 75))] [(65, (m.2 65)), (66, (m.2 66)), (67, (m.2 67)), (68, (m.2 68)), (76, (m.2 76)), (77, (m.2 77)), (78, (m.2 78)), (79, (m.2 79)), (80, (m.2 80))]) c N D (by omega) (Ty_mO hT rfl rfl ⟨f7, f8, f9, f10, f11, f12, f28, f69, f70, f71, f72, f73, g102, f75, trivial⟩ ⟨(hT.2.1 65), (hT.2.1 66), (hT.2.1 67), (hT.2.1 68), (hT.2.1 76), (hT.2.1 77), (hT.2.1 78), (hT.2.1 79), (hT.2.1 80), trivial⟩) 1 (m.1 8) (m.1 7) ⟨by decide, by decide⟩ (r32 (by omega) (by omega)) (r32 (by omega) (by omega)) (show (m.1 73) ≤ 59 by omega) (show 0 ≤ (1 : Int) ∧ (1 : Int) ≤ 2 by omega) (show 0 ≤ (m.1 8) ∧ (m.1 8) ≤ 4000 by omega) (show 0 ≤ (m.1 7) ∧ (m.1 7) ≤ 330 by omega)) (fun rr103 k104 => ?_)
      obtain ⟨m105, hT106, h107, h108, h109, h110, h111, h112, rfl⟩ := k104
      refine ⟨_, _, rfl, ?_⟩
      refine T_nf2 (st' := []) (l' := [(7, (m.1 7)), (8, (m.1 8)), (9, (m.1 9)), (10, (m.1 10)), (11, (m.1 11)), (12, (m.1 12)), (28, (m.1 28)), (69, (m.1 69)), (70, (m.1 70)), (71, (m.1 71)), (72, (m.1 72)), (73, (m105.1 73)), (74, (m.1 74) + 1), (75, (m.1 75))]) (a' := [(65, (m.2 65)), (66, (m.2 66)), (67, (m.2 67)), (68, (m.2 68)), (76, (m105.2 76)), (77, (m105.2 77)), (78, (m105.2 78)), (79, (m105.2 79)), (80, (m105.2 80))]) [73] [76, 77, 78, 79, 80] rfl ⟨rfl, rfl, rfl, rfl, rfl, rfl, rfl, rfl, rfl, rfl, rfl, rfl, rfl, rfl, rfl, rfl, rfl, rfl, rfl, rfl, rfl, rfl, rfl, rfl, rfl, rfl, rfl, rfl, rfl, rfl, rfl, rfl, rfl, rfl, rfl, rfl, rfl, rfl, rfl, trivial⟩ ⟨rfl, rfl, rfl, rfl, rfl, rfl, rfl, rfl, rfl, rfl, rfl, rfl, rfl, rfl, rfl, rfl, rfl, rfl, rfl, rfl, rfl, rfl, trivial⟩ rfl rfl (by decide) (by decide) ?_
      have g113 : 0 ≤ m105.1 73 ∧ m105.1 73 ≤ 60 := hT106.1 73
      replace h107 : (m105.1 73) = (m.1 73) + 1 := h107
      have hO0 := h107
      replace h108 : (m105.2 76) = upI (m.2 76) (m.1 73) (1 : Int) := h108
      have hO1 := h108
      replace h109 : (m105.2 78) = upI (m.2 78) (m.1 73) (m.1 7) := h109
      have hO2 := h109
      replace h110 : (m105.2 79) = upI (m.2 79) (m.1 73) 0 := h110
      have hO3 := h110
      replace h111 : ∀ j, j < 9 * (m.1 73) → (m105.2 80) j = (m.2 80) j := h111
      have hW1 := h111
      replace h112 : ∀ j, 9 * (m.1 73) ≤ j → j < 9 * (m.1 73) + 9 → (m105.2 80) j = -1 := h112
      have hW2 := h112
      have u114 : (m.1 8) ≤ (m.1 8) := by omega
      have hAgC : agr (m.2 65) (m.2 65) (m.1 28) := by first | exact agr_r _ _ | exact hAgC | exact agr_t hAgC hAg (by omega)
      have u115 : 1 ≤ (m105.1 73) := by omega
      refine T_ld 79 (.ref 189) rfl (fun _ => rfl) ?_
      refine T_call 82 212 [.ref 189] [] rfl (fun _ => rfl) rfl (c_next w (mO m [(7, (m.1 7)), (8, (m.1 8)), (9, (m.1 9)), (10, (m.1 10)), (11, (m.1 11)), (12, (m.1 12)), (28, (m.1 28)), (69, (m.1 69)), (70, (m.1 70)), (71, (m.1 71)), (72, (m.1 72)), (73, (m105.1 73)), (74, (m.1 74) + 1), (75, (m.1 75))] [(65, (m.2 65)), (66, (m.2 66)), (67, (m.2 67)), (68, (m.2 68)), (76, (m105.2 76)), (77, (m105.2 77)), (78, (m105.2 78)), (79, (m105.2 79)), (80, (m105.2 80))]) c N D (by omega) (Ty_mO hT rfl rfl ⟨f7, f8, f9, f10, f11, f12, f28, f69, f70, f71, f72, (hT106.1 73), g102, f75, trivial⟩ ⟨(hT.2.1 65), (hT.2.1 66), (hT.2.1 67), (hT.2.1 68), (hT106.2.1 76), (hT106.2.1 77), (hT106.2.1 78), (hT106.2.1 79), (hT106.2.1 80), trivial⟩) (show (m.1 10) = 0 → (m.1 8) + (m.1 9) ≤ (m.1 6) by first | omega | (intro h9; have h8 := hLx h9; omega))) (fun rr116 k117 => ?_)
      obtain ⟨y118, y120, y122, y124, y126, y128, g119, g121, g123, g125, g127, g129, h130, h131, h132, h133, rfl⟩ := k117
      refine ⟨_, _, rfl, ?_⟩
      refine T_nf2 (st' := []) (l' := [(7, y118), (8, y120), (9, y122), (10, y124), (11, y126), (12, y128), (28, (m.1 28)), (69, (m.1 69)), (70, (m.1 70)), (71, (m.1 71)), (72, (m.1 72)), (73, (m105.1 73)), (74, (m.1 74) + 1), (75, (m.1 75))]) (a' := [(65, (m.2 65)), (66, (m.2 66)), (67, (m.2 67)), (68, (m.2 68)), (76, (m105.2 76)), (77, (m105.2 77)), (78, (m105.2 78)), (79, (m105.2 79)), (80, (m105.2 80))]) [7, 8, 9, 10, 11, 12] [] rfl ⟨rfl, rfl, rfl, rfl, rfl, rfl, rfl, rfl, rfl, rfl, rfl, rfl, rfl, rfl, rfl, rfl, rfl, rfl, rfl, rfl, rfl, rfl, rfl, rfl, rfl, rfl, rfl, rfl, trivial⟩ ⟨rfl, rfl, rfl, rfl, rfl, rfl, rfl, rfl, rfl, rfl, rfl, rfl, rfl, rfl, rfl, rfl, rfl, rfl, trivial⟩ rfl rfl (by decide) (by decide) ?_
      by_cases hf134 : y124 = 0
      · skip
        subst hf134
        replace h130 : LxP y118 y120 y122 (m.1 6) (0 : Int) := h130
        have hLx := h130
        replace h131 : (m.1 10) = 0 := h131 rfl
        replace h132 : (m.1 8) ≤ y120 := h132
        replace h133 : (m.1 8) + (m.1 9) ≤ y120 := h133 rfl
        have u135 : (m.1 8) + 1 ≤ y120 := by omega
        have hAgC : agr (m.2 65) (m.2 65) (m.1 28) := by first | exact agr_r _ _ | exact hAgC | exact agr_t hAgC hAg (by omega)
        have u136 : 1 ≤ (m105.1 73) := by omega
        clear g125
        have hXE : XS (m.2 65) (m.2 67) (m105.2 76) (m105.2 78) (m105.2 79) (m105.2 80) B (m.1 28) (m105.1 73) ((m.1 74) + 1) (um (m.1 75)) := by
          rw [hO0, hO1, hO2, hO3, show um (m.1 75) = 0 from if_pos (by omega)]
          exact XS_pre hXS (by omega) (by omega) hW1 hW2
        refine T_goto 219 rfl (fun _ => rfl) ?_
        refine T_ret rfl (fun _ => rfl) ?_
        exact ⟨(mO m [(7, y118), (8, y120), (9, y122), (10, 0), (11, y126), (12, y128), (28, (m.1 28)), (69, (m.1 69)), (70, (m.1 70)), (71, (m.1 71)), (72, (m.1 72)), (73, (m105.1 73)), (74, (m.1 74) + 1), (75, (m.1 75))] [(65, (m.2 65)), (66, (m.2 66)), (67, (m.2 67)), (68, (m.2 68)), (76, (m105.2 76)), (77, (m105.2 77)), (78, (m105.2 78)), (79, (m105.2 79)), (80, (m105.2 80))]), (Ty_mO hT rfl rfl ⟨g119, g121, g123, ⟨(by omega : (0 : Int) ≤ 0), (by omega : (0 : Int) ≤ 8)⟩, g127, g129, f28, f69, f70, f71, f72, (hT106.1 73), g102, f75, trivial⟩ ⟨(hT.2.1 65), (hT.2.1 66), (hT.2.1 67), (hT.2.1 68), (hT106.2.1 76), (hT106.2.1 77), (hT106.2.1 78), (hT106.2.1 79), (hT106.2.1 80), trivial⟩), (show (0 : Int) = 0 → (m.1 10) = 0 by omega), (show LxP y118 y120 y122 (m.1 6) (0 : Int) by first | (first | exact hLx | exact (fun _ => hLx (by omega)) | (intro h9; exfalso; omega)) | (exfalso; omega)), (fun _ => ⟨(show (m.1 8) + 1 ≤ y120 by omega), (show (m.1 75) = 0 ∨ ((m.1 75) = 1 ∧ (m.1 69) ≤ 64) by omega), (show 1 ≤ (m105.1 73) by omega), (show (m.1 28) ≤ (m.1 28) by omega), (show XS (m.2 65) (m.2 67) (m105.2 76) (m105.2 78) (m105.2 79) (m105.2 80) B (m.1 28) (m105.1 73) ((m.1 74) + 1) (um (m.1 75)) by first | (exact hXE) | (exfalso; omega)), (show agr (m.2 65) (m.2 65) (m.1 28) by first | (exact hAgC) | (exfalso; omega))⟩), rfl⟩
      · skip
        replace h130 : LxP y118 y120 y122 (m.1 6) y124 := h130
        have hLx := h130
        clear h131
        replace h132 : (m.1 8) ≤ y120 := h132
        clear h133
        have hf137 : 1 ≤ y124 := by omega
        refine Tm_lv (a := [(0, .ref 189), (1, .int (i32 (m.1 8)))]) rfl rfl ⟨rfl, rfl, trivial⟩ ?_
        exact J82_84 (mO m [(7, y118), (8, y120), (9, y122), (10, y124), (11, y126), (12, y128), (28, (m.1 28)), (69, (m.1 69)), (70, (m.1 70)), (71, (m.1 71)), (72, (m.1 72)), (73, (m105.1 73)), (74, (m.1 74) + 1), (75, (m.1 75))] [(65, (m.2 65)), (66, (m.2 66)), (67, (m.2 67)), (68, (m.2 68)), (76, (m105.2 76)), (77, (m105.2 77)), (78, (m105.2 78)), (79, (m105.2 79)), (80, (m105.2 80))]) (Ty_mO hT rfl rfl ⟨g119, g121, g123, g125, g127, g129, f28, f69, f70, f71, f72, (hT106.1 73), g102, f75, trivial⟩ ⟨(hT.2.1 65), (hT.2.1 66), (hT.2.1 67), (hT.2.1 68), (hT106.2.1 76), (hT106.2.1 77), (hT106.2.1 78), (hT106.2.1 79), (hT106.2.1 80), trivial⟩) (show 1 ≤ y124 by omega) (show y124 ≤ 8 by omega) (show 0 ≤ ((m.1 74) + 1) ∧ ((m.1 74) + 1) ≤ 24 by omega) (show 0 ≤ (m.1 8) ∧ (m.1 8) ≤ 4000 by omega)
    · skip
      refine T_ld 42 (.ref 189) rfl (fun _ => rfl) ?_
      refine T_ld 43 (.int (i32 4)) rfl (fun _ => rfl) ?_
      refine T_gf 47 (.int (i32 (m.1 8))) rfl rfl rfl rfl rfl rfl ?_
      refine T_call 50 222 [.ref 189, .int (i32 4), .int (i32 (m.1 8))] [] rfl (fun _ => rfl) rfl (c_wrong w (mO m [(7, (m.1 7)), (8, (m.1 8)), (9, (m.1 9)), (10, (m.1 10)), (11, (m.1 11)), (12, (m.1 12)), (28, (m.1 28)), (69, (m.1 69)), (70, (m.1 70)), (71, (m.1 71)), (72, (m.1 72)), (73, (m.1 73)), (74, (m.1 74)), (75, (m.1 75))] [(65, (m.2 65)), (66, (m.2 66)), (67, (m.2 67)), (68, (m.2 68)), (76, (m.2 76)), (77, (m.2 77)), (78, (m.2 78)), (79, (m.2 79)), (80, (m.2 80))]) c N D (by omega) (Ty_mO hT rfl rfl ⟨f7, f8, f9, f10, f11, f12, f28, f69, f70, f71, f72, f73, f74, f75, trivial⟩ ⟨(hT.2.1 65), (hT.2.1 66), (hT.2.1 67), (hT.2.1 68), (hT.2.1 76), (hT.2.1 77), (hT.2.1 78), (hT.2.1 79), (hT.2.1 80), trivial⟩) 4 (m.1 8) ⟨by decide, by decide⟩ (r32 (by omega) (by omega)) (show 1 ≤ (4 : Int) ∧ (4 : Int) ≤ 8 by omega) (show 0 ≤ (m.1 8) ∧ (m.1 8) ≤ 4000 by omega)) (fun rr138 k139 => ?_)
      obtain ⟨y140, y142, g141, g143, h144, rfl⟩ := k139
      refine ⟨_, _, rfl, ?_⟩
      refine T_nf2 (st' := []) (l' := [(7, (m.1 7)), (8, (m.1 8)), (9, (m.1 9)), (10, y140), (11, y142), (12, (m.1 12)), (28, (m.1 28)), (69, (m.1 69)), (70, (m.1 70)), (71, (m.1 71)), (72, (m.1 72)), (73, (m.1 73)), (74, (m.1 74)), (75, (m.1 75))]) (a' := [(65, (m.2 65)), (66, (m.2 66)), (67, (m.2 67)), (68, (m.2 68)), (76, (m.2 76)), (77, (m.2 77)), (78, (m.2 78)), (79, (m.2 79)), (80, (m.2 80))]) [10, 11] [] rfl ⟨rfl, rfl, rfl, rfl, rfl, rfl, rfl, rfl, rfl, rfl, rfl, rfl, rfl, rfl, rfl, rfl, rfl, rfl, rfl, rfl, rfl, rfl, rfl, rfl, rfl, rfl, rfl, rfl, rfl, rfl, rfl, trivial⟩ ⟨rfl, rfl, rfl, rfl, rfl, rfl, rfl, rfl, rfl, rfl, rfl, rfl, rfl, rfl, rfl, rfl, rfl, rfl, trivial⟩ rfl rfl (by decide) (by decide) ?_
      replace h144 : (0 < (m.1 10) → y140 = (m.1 10) ∧ y142 = (m.1 11)) ∧ ((m.1 10) ≤ 0 → y140 = (4 : Int) ∧ y142 = (m.1 8)) := h144
      have hf145 : 1 ≤ y140 := by omega
      refine Tm_lv (a := [(0, .ref 189), (1, .int (i32 (m.1 8)))]) rfl rfl ⟨rfl, rfl, trivial⟩ ?_
      exact J50_92 (mO m [(7, (m.1 7)), (8, (m.1 8)), (9, (m.1 9)), (10, y140), (11, y142), (12, (m.1 12)), (28, (m.1 28)), (69, (m.1 69)), (70, (m.1 70)), (71, (m.1 71)), (72, (m.1 72)), (73, (m.1 73)), (74, (m.1 74)), (75, (m.1 75))] [(65, (m.2 65)), (66, (m.2 66)), (67, (m.2 67)), (68, (m.2 68)), (76, (m.2 76)), (77, (m.2 77)), (78, (m.2 78)), (79, (m.2 79)), (80, (m.2 80))]) (Ty_mO hT rfl rfl ⟨f7, f8, f9, g141, g143, f12, f28, f69, f70, f71, f72, f73, f74, f75, trivial⟩ ⟨(hT.2.1 65), (hT.2.1 66), (hT.2.1 67), (hT.2.1 68), (hT.2.1 76), (hT.2.1 77), (hT.2.1 78), (hT.2.1 79), (hT.2.1 80), trivial⟩) (show 1 ≤ y140 by omega) (show y140 ≤ 8 by omega) (show 0 ≤ (m.1 8) ∧ (m.1 8) ≤ 4000 by omega)
  · skip
    refine T_gf 18 (.int (i32 (m.1 7))) rfl rfl rfl rfl rfl rfl ?_
    refine T_ld 20 (.int (i32 33)) rfl (fun _ => rfl) ?_
    refine T_icmp 32 23 rfl rfl rfl (r32 (by omega) (by omega)) ⟨by decide, by decide⟩ (fun (h146 : (m.1 7) = 33) => ?_) (fun (h146 : ¬ ((m.1 7) = 33)) => ?_)
    · skip
      refine T_gf 36 (.int (i32 (m.1 74))) rfl rfl rfl rfl rfl rfl ?_
      refine T_ld 38 (.int (i32 24)) rfl (fun _ => rfl) ?_
      refine T_icmp 50 41 rfl rfl rfl (r32 (by omega) (by omega)) ⟨by decide, by decide⟩ (fun (h147 : (m.1 74) ≠ 24) => ?_) (fun (h147 : ¬ ((m.1 74) ≠ 24)) => ?_)
      · skip
        refine T_gf 54 (.int (i32 (m.1 10))) rfl rfl rfl rfl rfl rfl ?_
        refine T_if 58 57 rfl rfl rfl (r32 (by omega) (by omega)) (fun (h148 : (m.1 10) ≤ 0) => ?_) (fun (h148 : ¬ ((m.1 10) ≤ 0)) => by exfalso; omega)
        refine T_ld 59 (.ref 189) rfl (fun _ => rfl) ?_
        refine T_ld 60 (.ref 189) rfl (fun _ => rfl) ?_
        refine T_gf1 63 (.int (i32 (m.1 74))) rfl rfl rfl rfl ?_
        refine T_ld 64 (.int (i32 1)) rfl (fun _ => rfl) ?_
        refine T_iadd 65 rfl rfl ?_
        refine T_pf (l' := [(7, (m.1 7)), (8, (m.1 8)), (9, (m.1 9)), (10, (m.1 10)), (11, (m.1 11)), (12, (m.1 12)), (28, (m.1 28)), (69, (m.1 69)), (70, (m.1 70)), (71, (m.1 71)), (72, (m.1 72)), (73, (m.1 73)), (74, (m.1 74) + 1), (75, (m.1 75))]) 68 ((m.1 74) + 1) rfl rfl rfl rfl rfl rfl ?_
        have g149 : 0 ≤ (m.1 74) + 1 ∧ (m.1 74) + 1 ≤ 24 := ⟨by omega, by omega⟩
        refine T_ld 69 (.ref 189) rfl (fun _ => rfl) ?_
        refine T_ld 70 (.int (i32 1)) rfl (fun _ => rfl) ?_
        refine T_ld 71 (.int (i32 (m.1 8))) rfl (fun _ => rfl) ?_
        refine T_gf 75 (.int (i32 (m.1 7))) rfl rfl rfl rfl rfl rfl ?_
        refine T_call 78 246 [.ref 189, .int (i32 1), .int (i32 (m.1 8)), .int (i32 (m.1 7))] [] rfl (fun _ => rfl) rfl (c_open w (mO m [(7, (m.1 7)), (8, (m.1 8)), (9, (m.1 9)), (10, (m.1 10)), (11, (m.1 11)), (12, (m.1 12)), (28, (m.1 28)), (69, (m.1 69)), (70, (m.1 70)), (71, (m.1 71)), (72, (m.1 72)), (73, (m.1 73)), (74, (m.1 74) + 1), (75, (m.1 75))] [(65, (m.2 65)), (66, (m.2 66)), (67, (m.2 67)), (68, (m.2 68)), (76, (m.2 76)), (77, (m.2 77)), (78, (m.2 78)), (79, (m.2 79)), (80, (m.2 80))]) c N D (by omega) (Ty_mO hT rfl rfl ⟨f7, f8, f9, f10, f11, f12, f28, f69, f70, f71, f72, f73, g149, f75, trivial⟩ ⟨(hT.2.1 65), (hT.2.1 66), (hT.2.1 67), (hT.2.1 68), (hT.2.1 76), (hT.2.1 77), (hT.2.1 78), (hT.2.1 79), (hT.2.1 80), trivial⟩) 1 (m.1 8) (m.1 7) ⟨by decide, by decide⟩ (r32 (by omega) (by omega)) (r32 (by omega) (by omega)) (show (m.1 73) ≤ 59 by omega) (show 0 ≤ (1 : Int) ∧ (1 : Int) ≤ 2 by omega) (show 0 ≤ (m.1 8) ∧ (m.1 8) ≤ 4000 by omega) (show 0 ≤ (m.1 7) ∧ (m.1 7) ≤ 330 by omega)) (fun rr150 k151 => ?_)
        obtain ⟨m152, hT153, h154, h155, h156, h157, h158, h159, rfl⟩ := k151
        refine ⟨_, _, rfl, ?_⟩
        refine T_nf2 (st' := []) (l' := [(7, (m.1 7)), (8, (m.1 8)), (9, (m.1 9)), (10, (m.1 10)), (11, (m.1 11)), (12, (m.1 12)), (28, (m.1 28)), (69, (m.1 69)), (70, (m.1 70)), (71, (m.1 71)), (72, (m.1 72)), (73, (m152.1 73)), (74, (m.1 74) + 1), (75, (m.1 75))]) (a' := [(65, (m.2 65)), (66, (m.2 66)), (67, (m.2 67)), (68, (m.2 68)), (76, (m152.2 76)), (77, (m152.2 77)), (78, (m152.2 78)), (79, (m152.2 79)), (80, (m152.2 80))]) [73] [76, 77, 78, 79, 80] rfl ⟨rfl, rfl, rfl, rfl, rfl, rfl, rfl, rfl, rfl, rfl, rfl, rfl, rfl, rfl, rfl, rfl, rfl, rfl, rfl, rfl, rfl, rfl, rfl, rfl, rfl, rfl, rfl, rfl, rfl, rfl, rfl, rfl, rfl, rfl, rfl, rfl, rfl, rfl, rfl, trivial⟩ ⟨rfl, rfl, rfl, rfl, rfl, rfl, rfl, rfl, rfl, rfl, rfl, rfl, rfl, rfl, rfl, rfl, rfl, rfl, rfl, rfl, rfl, rfl, trivial⟩ rfl rfl (by decide) (by decide) ?_
        have g160 : 0 ≤ m152.1 73 ∧ m152.1 73 ≤ 60 := hT153.1 73
        replace h154 : (m152.1 73) = (m.1 73) + 1 := h154
        have hO0 := h154
        replace h155 : (m152.2 76) = upI (m.2 76) (m.1 73) (1 : Int) := h155
        have hO1 := h155
        replace h156 : (m152.2 78) = upI (m.2 78) (m.1 73) (m.1 7) := h156
        have hO2 := h156
        replace h157 : (m152.2 79) = upI (m.2 79) (m.1 73) 0 := h157
        have hO3 := h157
        replace h158 : ∀ j, j < 9 * (m.1 73) → (m152.2 80) j = (m.2 80) j := h158
        have hW1 := h158
        replace h159 : ∀ j, 9 * (m.1 73) ≤ j → j < 9 * (m.1 73) + 9 → (m152.2 80) j = -1 := h159
        have hW2 := h159
        have u161 : (m.1 8) ≤ (m.1 8) := by omega
        have hAgC : agr (m.2 65) (m.2 65) (m.1 28) := by first | exact agr_r _ _ | exact hAgC | exact agr_t hAgC hAg (by omega)
        have u162 : 1 ≤ (m152.1 73) := by omega
        refine T_ld 79 (.ref 189) rfl (fun _ => rfl) ?_
        refine T_call 82 212 [.ref 189] [] rfl (fun _ => rfl) rfl (c_next w (mO m [(7, (m.1 7)), (8, (m.1 8)), (9, (m.1 9)), (10, (m.1 10)), (11, (m.1 11)), (12, (m.1 12)), (28, (m.1 28)), (69, (m.1 69)), (70, (m.1 70)), (71, (m.1 71)), (72, (m.1 72)), (73, (m152.1 73)), (74, (m.1 74) + 1), (75, (m.1 75))] [(65, (m.2 65)), (66, (m.2 66)), (67, (m.2 67)), (68, (m.2 68)), (76, (m152.2 76)), (77, (m152.2 77)), (78, (m152.2 78)), (79, (m152.2 79)), (80, (m152.2 80))]) c N D (by omega) (Ty_mO hT rfl rfl ⟨f7, f8, f9, f10, f11, f12, f28, f69, f70, f71, f72, (hT153.1 73), g149, f75, trivial⟩ ⟨(hT.2.1 65), (hT.2.1 66), (hT.2.1 67), (hT.2.1 68), (hT153.2.1 76), (hT153.2.1 77), (hT153.2.1 78), (hT153.2.1 79), (hT153.2.1 80), trivial⟩) (show (m.1 10) = 0 → (m.1 8) + (m.1 9) ≤ (m.1 6) by first | omega | (intro h9; have h8 := hLx h9; omega))) (fun rr163 k164 => ?_)
        obtain ⟨y165, y167, y169, y171, y173, y175, g166, g168, g170, g172, g174, g176, h177, h178, h179, h180, rfl⟩ := k164
        refine ⟨_, _, rfl, ?_⟩
        refine T_nf2 (st' := []) (l' := [(7, y165), (8, y167), (9, y169), (10, y171), (11, y173), (12, y175), (28, (m.1 28)), (69, (m.1 69)), (70, (m.1 70)), (71, (m.1 71)), (72, (m.1 72)), (73, (m152.1 73)), (74, (m.1 74) + 1), (75, (m.1 75))]) (a' := [(65, (m.2 65)), (66, (m.2 66)), (67, (m.2 67)), (68, (m.2 68)), (76, (m152.2 76)), (77, (m152.2 77)), (78, (m152.2 78)), (79, (m152.2 79)), (80, (m152.2 80))]) [7, 8, 9, 10, 11, 12] [] rfl ⟨rfl, rfl, rfl, rfl, rfl, rfl, rfl, rfl, rfl, rfl, rfl, rfl, rfl, rfl, rfl, rfl, rfl, rfl, rfl, rfl, rfl, rfl, rfl, rfl, rfl, rfl, rfl, rfl, trivial⟩ ⟨rfl, rfl, rfl, rfl, rfl, rfl, rfl, rfl, rfl, rfl, rfl, rfl, rfl, rfl, rfl, rfl, rfl, rfl, trivial⟩ rfl rfl (by decide) (by decide) ?_
        by_cases hf181 : y171 = 0
        · skip
          subst hf181
          replace h177 : LxP y165 y167 y169 (m.1 6) (0 : Int) := h177
          have hLx := h177
          replace h178 : (m.1 10) = 0 := h178 rfl
          replace h179 : (m.1 8) ≤ y167 := h179
          replace h180 : (m.1 8) + (m.1 9) ≤ y167 := h180 rfl
          have u182 : (m.1 8) + 1 ≤ y167 := by omega
          have hAgC : agr (m.2 65) (m.2 65) (m.1 28) := by first | exact agr_r _ _ | exact hAgC | exact agr_t hAgC hAg (by omega)
          have u183 : 1 ≤ (m152.1 73) := by omega
          clear g172
          have hXE : XS (m.2 65) (m.2 67) (m152.2 76) (m152.2 78) (m152.2 79) (m152.2 80) B (m.1 28) (m152.1 73) ((m.1 74) + 1) (um (m.1 75)) := by
            rw [hO0, hO1, hO2, hO3, show um (m.1 75) = 0 from if_pos (by omega)]
            exact XS_pre hXS (by omega) (by omega) hW1 hW2
          refine T_goto 219 rfl (fun _ => rfl) ?_
          refine T_ret rfl (fun _ => rfl) ?_
          exact ⟨(mO m [(7, y165), (8, y167), (9, y169), (10, 0), (11, y173), (12, y175), (28, (m.1 28)), (69, (m.1 69)), (70, (m.1 70)), (71, (m.1 71)), (72, (m.1 72)), (73, (m152.1 73)), (74, (m.1 74) + 1), (75, (m.1 75))] [(65, (m.2 65)), (66, (m.2 66)), (67, (m.2 67)), (68, (m.2 68)), (76, (m152.2 76)), (77, (m152.2 77)), (78, (m152.2 78)), (79, (m152.2 79)), (80, (m152.2 80))]), (Ty_mO hT rfl rfl ⟨g166, g168, g170, ⟨(by omega : (0 : Int) ≤ 0), (by omega : (0 : Int) ≤ 8)⟩, g174, g176, f28, f69, f70, f71, f72, (hT153.1 73), g149, f75, trivial⟩ ⟨(hT.2.1 65), (hT.2.1 66), (hT.2.1 67), (hT.2.1 68), (hT153.2.1 76), (hT153.2.1 77), (hT153.2.1 78), (hT153.2.1 79), (hT153.2.1 80), trivial⟩), (show (0 : Int) = 0 → (m.1 10) = 0 by omega), (show LxP y165 y167 y169 (m.1 6) (0 : Int) by first | (first | exact hLx | exact (fun _ => hLx (by omega)) | (intro h9; exfalso; omega)) | (exfalso; omega)), (fun _ => ⟨(show (m.1 8) + 1 ≤ y167 by omega), (show (m.1 75) = 0 ∨ ((m.1 75) = 1 ∧ (m.1 69) ≤ 64) by omega), (show 1 ≤ (m152.1 73) by omega), (show (m.1 28) ≤ (m.1 28) by omega), (show XS (m.2 65) (m.2 67) (m152.2 76) (m152.2 78) (m152.2 79) (m152.2 80) B (m.1 28) (m152.1 73) ((m.1 74) + 1) (um (m.1 75)) by first | (exact hXE) | (exfalso; omega)), (show agr (m.2 65) (m.2 65) (m.1 28) by first | (exact hAgC) | (exfalso; omega))⟩), rfl⟩
        · skip
          replace h177 : LxP y165 y167 y169 (m.1 6) y171 := h177
          have hLx := h177
          clear h178
          replace h179 : (m.1 8) ≤ y167 := h179
          clear h180
          have hf184 : 1 ≤ y171 := by omega
          refine Tm_lv (a := [(0, .ref 189), (1, .int (i32 (m.1 8)))]) rfl rfl ⟨rfl, rfl, trivial⟩ ?_
          exact J82_84 (mO m [(7, y165), (8, y167), (9, y169), (10, y171), (11, y173), (12, y175), (28, (m.1 28)), (69, (m.1 69)), (70, (m.1 70)), (71, (m.1 71)), (72, (m.1 72)), (73, (m152.1 73)), (74, (m.1 74) + 1), (75, (m.1 75))] [(65, (m.2 65)), (66, (m.2 66)), (67, (m.2 67)), (68, (m.2 68)), (76, (m152.2 76)), (77, (m152.2 77)), (78, (m152.2 78)), (79, (m152.2 79)), (80, (m152.2 80))]) (Ty_mO hT rfl rfl ⟨g166, g168, g170, g172, g174, g176, f28, f69, f70, f71, f72, (hT153.1 73), g149, f75, trivial⟩ ⟨(hT.2.1 65), (hT.2.1 66), (hT.2.1 67), (hT.2.1 68), (hT153.2.1 76), (hT153.2.1 77), (hT153.2.1 78), (hT153.2.1 79), (hT153.2.1 80), trivial⟩) (show 1 ≤ y171 by omega) (show y171 ≤ 8 by omega) (show 0 ≤ ((m.1 74) + 1) ∧ ((m.1 74) + 1) ≤ 24 by omega) (show 0 ≤ (m.1 8) ∧ (m.1 8) ≤ 4000 by omega)
      · skip
        refine T_ld 42 (.ref 189) rfl (fun _ => rfl) ?_
        refine T_ld 43 (.int (i32 4)) rfl (fun _ => rfl) ?_
        refine T_gf 47 (.int (i32 (m.1 8))) rfl rfl rfl rfl rfl rfl ?_
        refine T_call 50 222 [.ref 189, .int (i32 4), .int (i32 (m.1 8))] [] rfl (fun _ => rfl) rfl (c_wrong w (mO m [(7, (m.1 7)), (8, (m.1 8)), (9, (m.1 9)), (10, (m.1 10)), (11, (m.1 11)), (12, (m.1 12)), (28, (m.1 28)), (69, (m.1 69)), (70, (m.1 70)), (71, (m.1 71)), (72, (m.1 72)), (73, (m.1 73)), (74, (m.1 74)), (75, (m.1 75))] [(65, (m.2 65)), (66, (m.2 66)), (67, (m.2 67)), (68, (m.2 68)), (76, (m.2 76)), (77, (m.2 77)), (78, (m.2 78)), (79, (m.2 79)), (80, (m.2 80))]) c N D (by omega) (Ty_mO hT rfl rfl ⟨f7, f8, f9, f10, f11, f12, f28, f69, f70, f71, f72, f73, f74, f75, trivial⟩ ⟨(hT.2.1 65), (hT.2.1 66), (hT.2.1 67), (hT.2.1 68), (hT.2.1 76), (hT.2.1 77), (hT.2.1 78), (hT.2.1 79), (hT.2.1 80), trivial⟩) 4 (m.1 8) ⟨by decide, by decide⟩ (r32 (by omega) (by omega)) (show 1 ≤ (4 : Int) ∧ (4 : Int) ≤ 8 by omega) (show 0 ≤ (m.1 8) ∧ (m.1 8) ≤ 4000 by omega)) (fun rr185 k186 => ?_)
        obtain ⟨y187, y189, g188, g190, h191, rfl⟩ := k186
        refine ⟨_, _, rfl, ?_⟩
        refine T_nf2 (st' := []) (l' := [(7, (m.1 7)), (8, (m.1 8)), (9, (m.1 9)), (10, y187), (11, y189), (12, (m.1 12)), (28, (m.1 28)), (69, (m.1 69)), (70, (m.1 70)), (71, (m.1 71)), (72, (m.1 72)), (73, (m.1 73)), (74, (m.1 74)), (75, (m.1 75))]) (a' := [(65, (m.2 65)), (66, (m.2 66)), (67, (m.2 67)), (68, (m.2 68)), (76, (m.2 76)), (77, (m.2 77)), (78, (m.2 78)), (79, (m.2 79)), (80, (m.2 80))]) [10, 11] [] rfl ⟨rfl, rfl, rfl, rfl, rfl, rfl, rfl, rfl, rfl, rfl, rfl, rfl, rfl, rfl, rfl, rfl, rfl, rfl, rfl, rfl, rfl, rfl, rfl, rfl, rfl, rfl, rfl, rfl, rfl, rfl, rfl, trivial⟩ ⟨rfl, rfl, rfl, rfl, rfl, rfl, rfl, rfl, rfl, rfl, rfl, rfl, rfl, rfl, rfl, rfl, rfl, rfl, trivial⟩ rfl rfl (by decide) (by decide) ?_
        replace h191 : (0 < (m.1 10) → y187 = (m.1 10) ∧ y189 = (m.1 11)) ∧ ((m.1 10) ≤ 0 → y187 = (4 : Int) ∧ y189 = (m.1 8)) := h191
        have hf192 : 1 ≤ y187 := by omega
        refine Tm_lv (a := [(0, .ref 189), (1, .int (i32 (m.1 8)))]) rfl rfl ⟨rfl, rfl, trivial⟩ ?_
        exact J50_92 (mO m [(7, (m.1 7)), (8, (m.1 8)), (9, (m.1 9)), (10, y187), (11, y189), (12, (m.1 12)), (28, (m.1 28)), (69, (m.1 69)), (70, (m.1 70)), (71, (m.1 71)), (72, (m.1 72)), (73, (m.1 73)), (74, (m.1 74)), (75, (m.1 75))] [(65, (m.2 65)), (66, (m.2 66)), (67, (m.2 67)), (68, (m.2 68)), (76, (m.2 76)), (77, (m.2 77)), (78, (m.2 78)), (79, (m.2 79)), (80, (m.2 80))]) (Ty_mO hT rfl rfl ⟨f7, f8, f9, g188, g190, f12, f28, f69, f70, f71, f72, f73, f74, f75, trivial⟩ ⟨(hT.2.1 65), (hT.2.1 66), (hT.2.1 67), (hT.2.1 68), (hT.2.1 76), (hT.2.1 77), (hT.2.1 78), (hT.2.1 79), (hT.2.1 80), trivial⟩) (show 1 ≤ y187 by omega) (show y187 ≤ 8 by omega) (show 0 ≤ (m.1 8) ∧ (m.1 8) ≤ 4000 by omega)
    · skip
      refine T_gf 27 (.int (i32 (m.1 7))) rfl rfl rfl rfl rfl rfl ?_
      refine T_ld 29 (.int (i32 45)) rfl (fun _ => rfl) ?_
      refine T_icmp 85 32 rfl rfl rfl (r32 (by omega) (by omega)) ⟨by decide, by decide⟩ (fun (h193 : (m.1 7) ≠ 45) => ?_) (fun (h193 : ¬ ((m.1 7) ≠ 45)) => ?_)
      · skip
        refine T_gf 89 (.int (i32 (m.1 7))) rfl rfl rfl rfl rfl rfl ?_
        refine T_ld 90 (.int (i32 2)) rfl (fun _ => rfl) ?_
        refine T_icmp 133 93 rfl rfl rfl (r32 (by omega) (by omega)) ⟨by decide, by decide⟩ (fun (h194 : (m.1 7) ≠ 2) => ?_) (fun (h194 : ¬ ((m.1 7) ≠ 2)) => ?_)
        · skip
          refine T_gf 137 (.int (i32 (m.1 7))) rfl rfl rfl rfl rfl rfl ?_
          refine T_ld 138 (.int (i32 1)) rfl (fun _ => rfl) ?_
          refine T_icmp 149 141 rfl rfl rfl (r32 (by omega) (by omega)) ⟨by decide, by decide⟩ (fun (h195 : (m.1 7) ≠ 1) => ?_) (fun (h195 : ¬ ((m.1 7) ≠ 1)) => ?_)
          · skip
            refine T_gf 153 (.int (i32 (m.1 7))) rfl rfl rfl rfl rfl rfl ?_
            refine T_ld 156 (.int (i32 329)) rfl (fun _ => rfl) ?_
            refine T_icmp 188 159 rfl rfl rfl (r32 (by omega) (by omega)) ⟨by decide, by decide⟩ (fun (h196 : (m.1 7) ≠ 329) => ?_) (fun (h196 : ¬ ((m.1 7) ≠ 329)) => ?_)
            · skip
              refine T_gf 192 (.int (i32 (m.1 7))) rfl rfl rfl rfl rfl rfl ?_
              refine T_ld 194 (.int (i32 40)) rfl (fun _ => rfl) ?_
              refine T_icmp 215 197 rfl rfl rfl (r32 (by omega) (by omega)) ⟨by decide, by decide⟩ (fun (h197 : (m.1 7) ≠ 40) => ?_) (fun (h197 : ¬ ((m.1 7) ≠ 40)) => ?_)
              · skip
                refine T_ld 216 (.ref 189) rfl (fun _ => rfl) ?_
                refine T_call 219 226 [.ref 189] [] rfl (fun _ => rfl) rfl (c_bad w (mO m [(7, (m.1 7)), (8, (m.1 8)), (9, (m.1 9)), (10, (m.1 10)), (11, (m.1 11)), (12, (m.1 12)), (28, (m.1 28)), (69, (m.1 69)), (70, (m.1 70)), (71, (m.1 71)), (72, (m.1 72)), (73, (m.1 73)), (74, (m.1 74)), (75, (m.1 75))] [(65, (m.2 65)), (66, (m.2 66)), (67, (m.2 67)), (68, (m.2 68)), (76, (m.2 76)), (77, (m.2 77)), (78, (m.2 78)), (79, (m.2 79)), (80, (m.2 80))]) c N D (by omega) (Ty_mO hT rfl rfl ⟨f7, f8, f9, f10, f11, f12, f28, f69, f70, f71, f72, f73, f74, f75, trivial⟩ ⟨(hT.2.1 65), (hT.2.1 66), (hT.2.1 67), (hT.2.1 68), (hT.2.1 76), (hT.2.1 77), (hT.2.1 78), (hT.2.1 79), (hT.2.1 80), trivial⟩) ) (fun rr198 k199 => ?_)
                obtain ⟨y200, y202, g201, g203, h204, rfl⟩ := k199
                refine ⟨_, _, rfl, ?_⟩
                refine T_nf2 (st' := []) (l' := [(7, (m.1 7)), (8, (m.1 8)), (9, (m.1 9)), (10, y200), (11, y202), (12, (m.1 12)), (28, (m.1 28)), (69, (m.1 69)), (70, (m.1 70)), (71, (m.1 71)), (72, (m.1 72)), (73, (m.1 73)), (74, (m.1 74)), (75, (m.1 75))]) (a' := [(65, (m.2 65)), (66, (m.2 66)), (67, (m.2 67)), (68, (m.2 68)), (76, (m.2 76)), (77, (m.2 77)), (78, (m.2 78)), (79, (m.2 79)), (80, (m.2 80))]) [10, 11] [] rfl ⟨rfl, rfl, rfl, rfl, rfl, rfl, rfl, rfl, rfl, rfl, rfl, rfl, rfl, rfl, rfl, rfl, rfl, rfl, rfl, rfl, rfl, rfl, rfl, rfl, rfl, rfl, rfl, rfl, rfl, rfl, rfl, trivial⟩ ⟨rfl, rfl, rfl, rfl, rfl, rfl, rfl, rfl, rfl, rfl, rfl, rfl, rfl, rfl, rfl, rfl, rfl, rfl, trivial⟩ rfl rfl (by decide) (by decide) ?_
                replace h204 : (0 < (m.1 10) → y200 = (m.1 10) ∧ y202 = (m.1 11)) ∧ ((m.1 10) ≤ 0 → y200 = 1 ∧ y202 = (m.1 8)) := h204
                have hf205 : 1 ≤ y200 := by omega
                refine T_ret rfl (fun _ => rfl) ?_
                exact ⟨(mO m [(7, (m.1 7)), (8, (m.1 8)), (9, (m.1 9)), (10, y200), (11, y202), (12, (m.1 12)), (28, (m.1 28)), (69, (m.1 69)), (70, (m.1 70)), (71, (m.1 71)), (72, (m.1 72)), (73, (m.1 73)), (74, (m.1 74)), (75, (m.1 75))] [(65, (m.2 65)), (66, (m.2 66)), (67, (m.2 67)), (68, (m.2 68)), (76, (m.2 76)), (77, (m.2 77)), (78, (m.2 78)), (79, (m.2 79)), (80, (m.2 80))]), (Ty_mO hT rfl rfl ⟨f7, f8, f9, g201, g203, f12, f28, f69, f70, f71, f72, f73, f74, f75, trivial⟩ ⟨(hT.2.1 65), (hT.2.1 66), (hT.2.1 67), (hT.2.1 68), (hT.2.1 76), (hT.2.1 77), (hT.2.1 78), (hT.2.1 79), (hT.2.1 80), trivial⟩), (show y200 = 0 → (m.1 10) = 0 by omega), (show LxP (m.1 7) (m.1 8) (m.1 9) (m.1 6) y200 by first | (first | exact hLx | exact (fun _ => hLx (by omega)) | (intro h9; exfalso; omega)) | (exfalso; omega)), (fun (h : y200 = 0) => absurd h (by omega)), rfl⟩
              · skip
                refine T_ld 198 (.ref 189) rfl (fun _ => rfl) ?_
                refine T_ld 199 (.int (i32 2)) rfl (fun _ => rfl) ?_
                refine T_ld 200 (.int (i32 (m.1 8))) rfl (fun _ => rfl) ?_
                refine T_ld 201 (.int (i32 0)) rfl (fun _ => rfl) ?_
                refine T_call 204 246 [.ref 189, .int (i32 2), .int (i32 (m.1 8)), .int (i32 0)] [] rfl (fun _ => rfl) rfl (c_open w (mO m [(7, (m.1 7)), (8, (m.1 8)), (9, (m.1 9)), (10, (m.1 10)), (11, (m.1 11)), (12, (m.1 12)), (28, (m.1 28)), (69, (m.1 69)), (70, (m.1 70)), (71, (m.1 71)), (72, (m.1 72)), (73, (m.1 73)), (74, (m.1 74)), (75, (m.1 75))] [(65, (m.2 65)), (66, (m.2 66)), (67, (m.2 67)), (68, (m.2 68)), (76, (m.2 76)), (77, (m.2 77)), (78, (m.2 78)), (79, (m.2 79)), (80, (m.2 80))]) c N D (by omega) (Ty_mO hT rfl rfl ⟨f7, f8, f9, f10, f11, f12, f28, f69, f70, f71, f72, f73, f74, f75, trivial⟩ ⟨(hT.2.1 65), (hT.2.1 66), (hT.2.1 67), (hT.2.1 68), (hT.2.1 76), (hT.2.1 77), (hT.2.1 78), (hT.2.1 79), (hT.2.1 80), trivial⟩) 2 (m.1 8) 0 ⟨by decide, by decide⟩ (r32 (by omega) (by omega)) ⟨by decide, by decide⟩ (show (m.1 73) ≤ 59 by omega) (show 0 ≤ (2 : Int) ∧ (2 : Int) ≤ 2 by omega) (show 0 ≤ (m.1 8) ∧ (m.1 8) ≤ 4000 by omega) (show 0 ≤ (0 : Int) ∧ (0 : Int) ≤ 330 by omega)) (fun rr206 k207 => ?_)
                obtain ⟨m208, hT209, h210, h211, h212, h213, h214, h215, rfl⟩ := k207
                refine ⟨_, _, rfl, ?_⟩
                refine T_nf2 (st' := []) (l' := [(7, (m.1 7)), (8, (m.1 8)), (9, (m.1 9)), (10, (m.1 10)), (11, (m.1 11)), (12, (m.1 12)), (28, (m.1 28)), (69, (m.1 69)), (70, (m.1 70)), (71, (m.1 71)), (72, (m.1 72)), (73, (m208.1 73)), (74, (m.1 74)), (75, (m.1 75))]) (a' := [(65, (m.2 65)), (66, (m.2 66)), (67, (m.2 67)), (68, (m.2 68)), (76, (m208.2 76)), (77, (m208.2 77)), (78, (m208.2 78)), (79, (m208.2 79)), (80, (m208.2 80))]) [73] [76, 77, 78, 79, 80] rfl ⟨rfl, rfl, rfl, rfl, rfl, rfl, rfl, rfl, rfl, rfl, rfl, rfl, rfl, rfl, rfl, rfl, rfl, rfl, rfl, rfl, rfl, rfl, rfl, rfl, rfl, rfl, rfl, rfl, rfl, rfl, rfl, rfl, rfl, rfl, rfl, rfl, rfl, rfl, rfl, trivial⟩ ⟨rfl, rfl, rfl, rfl, rfl, rfl, rfl, rfl, rfl, rfl, rfl, rfl, rfl, rfl, rfl, rfl, rfl, rfl, rfl, rfl, rfl, rfl, trivial⟩ rfl rfl (by decide) (by decide) ?_
                have g216 : 0 ≤ m208.1 73 ∧ m208.1 73 ≤ 60 := hT209.1 73
                replace h210 : (m208.1 73) = (m.1 73) + 1 := h210
                have hO0 := h210
                replace h211 : (m208.2 76) = upI (m.2 76) (m.1 73) (2 : Int) := h211
                have hO1 := h211
                replace h212 : (m208.2 78) = upI (m.2 78) (m.1 73) (0 : Int) := h212
                have hO2 := h212
                replace h213 : (m208.2 79) = upI (m.2 79) (m.1 73) 0 := h213
                have hO3 := h213
                replace h214 : ∀ j, j < 9 * (m.1 73) → (m208.2 80) j = (m.2 80) j := h214
                have hW1 := h214
                replace h215 : ∀ j, 9 * (m.1 73) ≤ j → j < 9 * (m.1 73) + 9 → (m208.2 80) j = -1 := h215
                have hW2 := h215
                have u217 : (m.1 8) ≤ (m.1 8) := by omega
                have hAgC : agr (m.2 65) (m.2 65) (m.1 28) := by first | exact agr_r _ _ | exact hAgC | exact agr_t hAgC hAg (by omega)
                have u218 : 1 ≤ (m208.1 73) := by omega
                refine T_ld 205 (.ref 189) rfl (fun _ => rfl) ?_
                refine T_call 208 212 [.ref 189] [] rfl (fun _ => rfl) rfl (c_next w (mO m [(7, (m.1 7)), (8, (m.1 8)), (9, (m.1 9)), (10, (m.1 10)), (11, (m.1 11)), (12, (m.1 12)), (28, (m.1 28)), (69, (m.1 69)), (70, (m.1 70)), (71, (m.1 71)), (72, (m.1 72)), (73, (m208.1 73)), (74, (m.1 74)), (75, (m.1 75))] [(65, (m.2 65)), (66, (m.2 66)), (67, (m.2 67)), (68, (m.2 68)), (76, (m208.2 76)), (77, (m208.2 77)), (78, (m208.2 78)), (79, (m208.2 79)), (80, (m208.2 80))]) c N D (by omega) (Ty_mO hT rfl rfl ⟨f7, f8, f9, f10, f11, f12, f28, f69, f70, f71, f72, (hT209.1 73), f74, f75, trivial⟩ ⟨(hT.2.1 65), (hT.2.1 66), (hT.2.1 67), (hT.2.1 68), (hT209.2.1 76), (hT209.2.1 77), (hT209.2.1 78), (hT209.2.1 79), (hT209.2.1 80), trivial⟩) (show (m.1 10) = 0 → (m.1 8) + (m.1 9) ≤ (m.1 6) by first | omega | (intro h9; have h8 := hLx h9; omega))) (fun rr219 k220 => ?_)
                obtain ⟨y221, y223, y225, y227, y229, y231, g222, g224, g226, g228, g230, g232, h233, h234, h235, h236, rfl⟩ := k220
                refine ⟨_, _, rfl, ?_⟩
                refine T_nf2 (st' := []) (l' := [(7, y221), (8, y223), (9, y225), (10, y227), (11, y229), (12, y231), (28, (m.1 28)), (69, (m.1 69)), (70, (m.1 70)), (71, (m.1 71)), (72, (m.1 72)), (73, (m208.1 73)), (74, (m.1 74)), (75, (m.1 75))]) (a' := [(65, (m.2 65)), (66, (m.2 66)), (67, (m.2 67)), (68, (m.2 68)), (76, (m208.2 76)), (77, (m208.2 77)), (78, (m208.2 78)), (79, (m208.2 79)), (80, (m208.2 80))]) [7, 8, 9, 10, 11, 12] [] rfl ⟨rfl, rfl, rfl, rfl, rfl, rfl, rfl, rfl, rfl, rfl, rfl, rfl, rfl, rfl, rfl, rfl, rfl, rfl, rfl, rfl, rfl, rfl, rfl, rfl, rfl, rfl, rfl, rfl, trivial⟩ ⟨rfl, rfl, rfl, rfl, rfl, rfl, rfl, rfl, rfl, rfl, rfl, rfl, rfl, rfl, rfl, rfl, rfl, rfl, trivial⟩ rfl rfl (by decide) (by decide) ?_
                by_cases hf237 : y227 = 0
                · skip
                  subst hf237
                  replace h233 : LxP y221 y223 y225 (m.1 6) (0 : Int) := h233
                  have hLx := h233
                  replace h234 : (m.1 10) = 0 := h234 rfl
                  replace h235 : (m.1 8) ≤ y223 := h235
                  replace h236 : (m.1 8) + (m.1 9) ≤ y223 := h236 rfl
                  have u238 : (m.1 8) + 1 ≤ y223 := by omega
                  have hAgC : agr (m.2 65) (m.2 65) (m.1 28) := by first | exact agr_r _ _ | exact hAgC | exact agr_t hAgC hAg (by omega)
                  have u239 : 1 ≤ (m208.1 73) := by omega
                  clear g228
                  have hXT : XT (m.2 65) (m.2 67) (m208.2 76) (m208.2 78) (m208.2 79) (m208.2 80) B (m.1 28) (m208.1 73) (m.1 74) 0 := by
                    rw [hO0, hO1, hO2, hO3]
                    exact XT_bra hXS (by omega) hW1 hW2
                  have hTop : (m208.1 73) = 0 ∨ (m208.2 76) ((m208.1 73) - 1) = 2 ∨ ((m208.2 76) ((m208.1 73) - 1) = 0 ∧ (m208.2 79) ((m208.1 73) - 1) = 2) := Or.inr (Or.inl (by rw [show (m208.1 73) - 1 = (m.1 73) by omega, hO1, upI_s]))
                  refine T_ld 209 (.ref 189) rfl (fun _ => rfl) ?_
                  refine T_call 212 245 [.ref 189] [] rfl (fun _ => rfl) rfl (c_beginChoice w (mO m [(7, y221), (8, y223), (9, y225), (10, 0), (11, y229), (12, y231), (28, (m.1 28)), (69, (m.1 69)), (70, (m.1 70)), (71, (m.1 71)), (72, (m.1 72)), (73, (m208.1 73)), (74, (m.1 74)), (75, (m.1 75))] [(65, (m.2 65)), (66, (m.2 66)), (67, (m.2 67)), (68, (m.2 68)), (76, (m208.2 76)), (77, (m208.2 77)), (78, (m208.2 78)), (79, (m208.2 79)), (80, (m208.2 80))]) c N D (by omega) (Ty_mO hT rfl rfl ⟨g222, g224, g226, ⟨(by omega : (0 : Int) ≤ 0), (by omega : (0 : Int) ≤ 8)⟩, g230, g232, f28, f69, f70, f71, f72, (hT209.1 73), f74, f75, trivial⟩ ⟨(hT.2.1 65), (hT.2.1 66), (hT.2.1 67), (hT.2.1 68), (hT209.2.1 76), (hT209.2.1 77), (hT209.2.1 78), (hT209.2.1 79), (hT209.2.1 80), trivial⟩) B 0 (fun _ => ⟨(show XT (m.2 65) (m.2 67) (m208.2 76) (m208.2 78) (m208.2 79) (m208.2 80) B (m.1 28) (m208.1 73) (m.1 74) 0 by first | exact hXT | exact hXS.1), (show (m208.1 73) = 0 ∨ (m208.2 76) ((m208.1 73) - 1) = 2 ∨ ((m208.2 76) ((m208.1 73) - 1) = 0 ∧ (m208.2 79) ((m208.1 73) - 1) = 2) by first | exact hTop | omega)⟩)) (fun rr240 k241 => ?_)
                  obtain ⟨m242, hT243, h244, c245, rfl⟩ := k241
                  refine ⟨_, _, rfl, ?_⟩
                  refine T_nf2 (st' := []) (l' := [(7, y221), (8, y223), (9, y225), (10, (m242.1 10)), (11, (m242.1 11)), (12, y231), (28, (m.1 28)), (69, (m.1 69)), (70, (m.1 70)), (71, (m.1 71)), (72, (m.1 72)), (73, (m242.1 73)), (74, (m242.1 74)), (75, (m242.1 75))]) (a' := [(65, (m.2 65)), (66, (m.2 66)), (67, (m.2 67)), (68, (m.2 68)), (76, (m242.2 76)), (77, (m242.2 77)), (78, (m242.2 78)), (79, (m242.2 79)), (80, (m242.2 80))]) [10, 11, 73, 74, 75] [76, 77, 78, 79, 80] rfl ⟨rfl, rfl, rfl, rfl, rfl, rfl, rfl, rfl, rfl, rfl, rfl, rfl, rfl, rfl, rfl, rfl, rfl, rfl, rfl, rfl, rfl, rfl, rfl, rfl, rfl, rfl, rfl, rfl, rfl, rfl, rfl, rfl, rfl, rfl, rfl, rfl, rfl, trivial⟩ ⟨rfl, rfl, rfl, rfl, rfl, rfl, rfl, rfl, rfl, rfl, rfl, rfl, rfl, rfl, rfl, rfl, rfl, rfl, rfl, rfl, rfl, rfl, trivial⟩ rfl rfl (by decide) (by decide) ?_
                  have g246 : 0 ≤ m242.1 10 ∧ m242.1 10 ≤ 8 := hT243.1 10
                  have g247 : (-1) ≤ m242.1 11 ∧ m242.1 11 ≤ 4000 := hT243.1 11
                  have g248 : 0 ≤ m242.1 73 ∧ m242.1 73 ≤ 60 := hT243.1 73
                  have g249 : 0 ≤ m242.1 74 ∧ m242.1 74 ≤ 24 := hT243.1 74
                  have g250 : 0 ≤ m242.1 75 ∧ m242.1 75 ≤ 3 := hT243.1 75
                  by_cases hf251 : (m242.1 10) = 0
                  · skip
                    replace h244 : (0 : Int) = 0 := h244 hf251
                    obtain ⟨c252, c253, c254⟩ := c245 hf251
                    replace c252 : XS (m.2 65) (m.2 67) (m242.2 76) (m242.2 78) (m242.2 79) (m242.2 80) B (m.1 28) (m242.1 73) (m242.1 74) 0 := c252
                    have hXS := c252
                    replace c253 : (m242.1 73) = (m208.1 73) + 1 := c253
                    replace c254 : (m242.1 75) = 0 := c254
                    clear c245
                    have u255 : (m.1 8) + 1 ≤ y223 := by omega
                    have hAgC : agr (m.2 65) (m.2 65) (m.1 28) := by first | exact agr_r _ _ | exact hAgC | exact agr_t hAgC hAg (by omega)
                    have u256 : 1 ≤ (m242.1 73) := by omega
                    clear g216 h210 h211 h212 h213 h214 h215 u218 g230 u239 c253
                    have hXE : XS (m.2 65) (m.2 67) (m242.2 76) (m242.2 78) (m242.2 79) (m242.2 80) B (m.1 28) (m242.1 73) (m242.1 74) (um (m242.1 75)) := by
                      rw [show um (m242.1 75) = 0 from if_pos (by omega)]
                      exact hXS
                    refine T_goto 219 rfl (fun _ => rfl) ?_
                    refine T_ret rfl (fun _ => rfl) ?_
                    exact ⟨(mO m [(7, y221), (8, y223), (9, y225), (10, (m242.1 10)), (11, (m242.1 11)), (12, y231), (28, (m.1 28)), (69, (m.1 69)), (70, (m.1 70)), (71, (m.1 71)), (72, (m.1 72)), (73, (m242.1 73)), (74, (m242.1 74)), (75, (m242.1 75))] [(65, (m.2 65)), (66, (m.2 66)), (67, (m.2 67)), (68, (m.2 68)), (76, (m242.2 76)), (77, (m242.2 77)), (78, (m242.2 78)), (79, (m242.2 79)), (80, (m242.2 80))]), (Ty_mO hT rfl rfl ⟨g222, g224, g226, (hT243.1 10), (hT243.1 11), g232, f28, f69, f70, f71, f72, (hT243.1 73), (hT243.1 74), (hT243.1 75), trivial⟩ ⟨(hT.2.1 65), (hT.2.1 66), (hT.2.1 67), (hT.2.1 68), (hT243.2.1 76), (hT243.2.1 77), (hT243.2.1 78), (hT243.2.1 79), (hT243.2.1 80), trivial⟩), (show (m242.1 10) = 0 → (m.1 10) = 0 by omega), (show LxP y221 y223 y225 (m.1 6) (m242.1 10) by first | (first | exact hLx | exact (fun _ => hLx (by omega)) | (intro h9; exfalso; omega)) | (exfalso; omega)), (fun _ => ⟨(show (m.1 8) + 1 ≤ y223 by omega), (show (m242.1 75) = 0 ∨ ((m242.1 75) = 1 ∧ (m.1 69) ≤ 64) by omega), (show 1 ≤ (m242.1 73) by omega), (show (m.1 28) ≤ (m.1 28) by omega), (show XS (m.2 65) (m.2 67) (m242.2 76) (m242.2 78) (m242.2 79) (m242.2 80) B (m.1 28) (m242.1 73) (m242.1 74) (um (m242.1 75)) by first | (exact hXE) | (exfalso; omega)), (show agr (m.2 65) (m.2 65) (m.1 28) by first | (exact hAgC) | (exfalso; omega))⟩), rfl⟩
                  · skip
                    clear c245
                    clear h244
                    have hf257 : 1 ≤ (m242.1 10) := by omega
                    clear g216 h210 h211 h212 h213 h214 h215 u218 g230 u239
                    refine Tm_lv (a := [(0, .ref 189), (1, .int (i32 (m.1 8)))]) rfl rfl ⟨rfl, rfl, trivial⟩ ?_
                    exact J212_17 (mO m [(7, y221), (8, y223), (9, y225), (10, (m242.1 10)), (11, (m242.1 11)), (12, y231), (28, (m.1 28)), (69, (m.1 69)), (70, (m.1 70)), (71, (m.1 71)), (72, (m.1 72)), (73, (m242.1 73)), (74, (m242.1 74)), (75, (m242.1 75))] [(65, (m.2 65)), (66, (m.2 66)), (67, (m.2 67)), (68, (m.2 68)), (76, (m242.2 76)), (77, (m242.2 77)), (78, (m242.2 78)), (79, (m242.2 79)), (80, (m242.2 80))]) (Ty_mO hT rfl rfl ⟨g222, g224, g226, (hT243.1 10), (hT243.1 11), g232, f28, f69, f70, f71, f72, (hT243.1 73), (hT243.1 74), (hT243.1 75), trivial⟩ ⟨(hT.2.1 65), (hT.2.1 66), (hT.2.1 67), (hT.2.1 68), (hT243.2.1 76), (hT243.2.1 77), (hT243.2.1 78), (hT243.2.1 79), (hT243.2.1 80), trivial⟩) (show 1 ≤ (m242.1 10) by omega) (show (m242.1 10) ≤ 8 by omega) (show 0 ≤ (m.1 8) ∧ (m.1 8) ≤ 4000 by omega)
                · skip
                  replace h233 : LxP y221 y223 y225 (m.1 6) y227 := h233
                  have hLx := h233
                  clear h234
                  replace h235 : (m.1 8) ≤ y223 := h235
                  clear h236
                  have hf258 : 1 ≤ y227 := by omega
                  refine T_ld 209 (.ref 189) rfl (fun _ => rfl) ?_
                  refine T_call 212 245 [.ref 189] [] rfl (fun _ => rfl) rfl (c_beginChoice w (mO m [(7, y221), (8, y223), (9, y225), (10, y227), (11, y229), (12, y231), (28, (m.1 28)), (69, (m.1 69)), (70, (m.1 70)), (71, (m.1 71)), (72, (m.1 72)), (73, (m208.1 73)), (74, (m.1 74)), (75, (m.1 75))] [(65, (m.2 65)), (66, (m.2 66)), (67, (m.2 67)), (68, (m.2 68)), (76, (m208.2 76)), (77, (m208.2 77)), (78, (m208.2 78)), (79, (m208.2 79)), (80, (m208.2 80))]) c N D (by omega) (Ty_mO hT rfl rfl ⟨g222, g224, g226, g228, g230, g232, f28, f69, f70, f71, f72, (hT209.1 73), f74, f75, trivial⟩ ⟨(hT.2.1 65), (hT.2.1 66), (hT.2.1 67), (hT.2.1 68), (hT209.2.1 76), (hT209.2.1 77), (hT209.2.1 78), (hT209.2.1 79), (hT209.2.1 80), trivial⟩) B 0 (fun (h : y227 = 0) => absurd h (by omega))) (fun rr259 k260 => ?_)
                  obtain ⟨m261, hT262, h263, c264, rfl⟩ := k260
                  refine ⟨_, _, rfl, ?_⟩
                  refine T_nf2 (st' := []) (l' := [(7, y221), (8, y223), (9, y225), (10, (m261.1 10)), (11, (m261.1 11)), (12, y231), (28, (m.1 28)), (69, (m.1 69)), (70, (m.1 70)), (71, (m.1 71)), (72, (m.1 72)), (73, (m261.1 73)), (74, (m261.1 74)), (75, (m261.1 75))]) (a' := [(65, (m.2 65)), (66, (m.2 66)), (67, (m.2 67)), (68, (m.2 68)), (76, (m261.2 76)), (77, (m261.2 77)), (78, (m261.2 78)), (79, (m261.2 79)), (80, (m261.2 80))]) [10, 11, 73, 74, 75] [76, 77, 78, 79, 80] rfl ⟨rfl, rfl, rfl, rfl, rfl, rfl, rfl, rfl, rfl, rfl, rfl, rfl, rfl, rfl, rfl, rfl, rfl, rfl, rfl, rfl, rfl, rfl, rfl, rfl, rfl, rfl, rfl, rfl, rfl, rfl, rfl, rfl, rfl, rfl, rfl, rfl, rfl, trivial⟩ ⟨rfl, rfl, rfl, rfl, rfl, rfl, rfl, rfl, rfl, rfl, rfl, rfl, rfl, rfl, rfl, rfl, rfl, rfl, rfl, rfl, rfl, rfl, trivial⟩ rfl rfl (by decide) (by decide) ?_
                  have g265 : 0 ≤ m261.1 10 ∧ m261.1 10 ≤ 8 := hT262.1 10
                  have g266 : (-1) ≤ m261.1 11 ∧ m261.1 11 ≤ 4000 := hT262.1 11
                  have g267 : 0 ≤ m261.1 73 ∧ m261.1 73 ≤ 60 := hT262.1 73
                  have g268 : 0 ≤ m261.1 74 ∧ m261.1 74 ≤ 24 := hT262.1 74
                  have g269 : 0 ≤ m261.1 75 ∧ m261.1 75 ≤ 3 := hT262.1 75
                  replace h263 : (m261.1 10) = 0 → y227 = 0 := h263
                  have hf270 : 1 ≤ (m261.1 10) := by omega
                  clear c264
                  clear h263
                  clear g216 h210 h211 h212 h213 h214 h215 u218 g228 g230 h233 hf258
                  refine Tm_lv (a := [(0, .ref 189), (1, .int (i32 (m.1 8)))]) rfl rfl ⟨rfl, rfl, trivial⟩ ?_
                  exact J212_17 (mO m [(7, y221), (8, y223), (9, y225), (10, (m261.1 10)), (11, (m261.1 11)), (12, y231), (28, (m.1 28)), (69, (m.1 69)), (70, (m.1 70)), (71, (m.1 71)), (72, (m.1 72)), (73, (m261.1 73)), (74, (m261.1 74)), (75, (m261.1 75))] [(65, (m.2 65)), (66, (m.2 66)), (67, (m.2 67)), (68, (m.2 68)), (76, (m261.2 76)), (77, (m261.2 77)), (78, (m261.2 78)), (79, (m261.2 79)), (80, (m261.2 80))]) (Ty_mO hT rfl rfl ⟨g222, g224, g226, (hT262.1 10), (hT262.1 11), g232, f28, f69, f70, f71, f72, (hT262.1 73), (hT262.1 74), (hT262.1 75), trivial⟩ ⟨(hT.2.1 65), (hT.2.1 66), (hT.2.1 67), (hT.2.1 68), (hT262.2.1 76), (hT262.2.1 77), (hT262.2.1 78), (hT262.2.1 79), (hT262.2.1 80), trivial⟩) (show 1 ≤ (m261.1 10) by omega) (show (m261.1 10) ≤ 8 by omega) (show 0 ≤ (m.1 8) ∧ (m.1 8) ≤ 4000 by omega)
            · skip
              refine T_ld 160 (.ref 189) rfl (fun _ => rfl) ?_
              refine T_call 163 212 [.ref 189] [] rfl (fun _ => rfl) rfl (c_next w (mO m [(7, (m.1 7)), (8, (m.1 8)), (9, (m.1 9)), (10, (m.1 10)), (11, (m.1 11)), (12, (m.1 12)), (28, (m.1 28)), (69, (m.1 69)), (70, (m.1 70)), (71, (m.1 71)), (72, (m.1 72)), (73, (m.1 73)), (74, (m.1 74)), (75, (m.1 75))] [(65, (m.2 65)), (66, (m.2 66)), (67, (m.2 67)), (68, (m.2 68)), (76, (m.2 76)), (77, (m.2 77)), (78, (m.2 78)), (79, (m.2 79)), (80, (m.2 80))]) c N D (by omega) (Ty_mO hT rfl rfl ⟨f7, f8, f9, f10, f11, f12, f28, f69, f70, f71, f72, f73, f74, f75, trivial⟩ ⟨(hT.2.1 65), (hT.2.1 66), (hT.2.1 67), (hT.2.1 68), (hT.2.1 76), (hT.2.1 77), (hT.2.1 78), (hT.2.1 79), (hT.2.1 80), trivial⟩) (show (m.1 10) = 0 → (m.1 8) + (m.1 9) ≤ (m.1 6) by first | omega | (intro h9; have h8 := hLx h9; omega))) (fun rr271 k272 => ?_)
              obtain ⟨y273, y275, y277, y279, y281, y283, g274, g276, g278, g280, g282, g284, h285, h286, h287, h288, rfl⟩ := k272
              refine ⟨_, _, rfl, ?_⟩
              refine T_nf2 (st' := []) (l' := [(7, y273), (8, y275), (9, y277), (10, y279), (11, y281), (12, y283), (28, (m.1 28)), (69, (m.1 69)), (70, (m.1 70)), (71, (m.1 71)), (72, (m.1 72)), (73, (m.1 73)), (74, (m.1 74)), (75, (m.1 75))]) (a' := [(65, (m.2 65)), (66, (m.2 66)), (67, (m.2 67)), (68, (m.2 68)), (76, (m.2 76)), (77, (m.2 77)), (78, (m.2 78)), (79, (m.2 79)), (80, (m.2 80))]) [7, 8, 9, 10, 11, 12] [] rfl ⟨rfl, rfl, rfl, rfl, rfl, rfl, rfl, rfl, rfl, rfl, rfl, rfl, rfl, rfl, rfl, rfl, rfl, rfl, rfl, rfl, rfl, rfl, rfl, rfl, rfl, rfl, rfl, rfl, trivial⟩ ⟨rfl, rfl, rfl, rfl, rfl, rfl, rfl, rfl, rfl, rfl, rfl, rfl, rfl, rfl, rfl, rfl, rfl, rfl, trivial⟩ rfl rfl (by decide) (by decide) ?_
              by_cases hf289 : y279 = 0
              · skip
                subst hf289
                replace h285 : LxP y273 y275 y277 (m.1 6) (0 : Int) := h285
                have hLx := h285
                replace h286 : (m.1 10) = 0 := h286 rfl
                replace h287 : (m.1 8) ≤ y275 := h287
                replace h288 : (m.1 8) + (m.1 9) ≤ y275 := h288 rfl
                have u290 : (m.1 8) + 1 ≤ y275 := by omega
                have hAgC : agr (m.2 65) (m.2 65) (m.1 28) := by first | exact agr_r _ _ | exact hAgC | exact agr_t hAgC hAg (by omega)
                have u291 : 1 ≤ (m.1 73) := by omega
                clear g280
                refine T_ld 164 (.ref 189) rfl (fun _ => rfl) ?_
                refine T_ld 165 (.int (i32 2)) rfl (fun _ => rfl) ?_
                have hOL : (0 : Int) = 0 → ∀ k, 0 ≤ k → k < (m.1 13) → (m.2 16) k = 2 → 0 ≤ (m.2 17) k ∧ (m.2 17) k < 12 := fun _ k h1 h2 h3 => by
                  have h4 := PNl_2 pPN k h1 h2 h3
                  omega
                refine T_call 168 236 [.ref 189, .int (i32 2)] [] rfl (fun _ => rfl) rfl (c_oldName w (mO m [(7, y273), (8, y275), (9, y277), (10, 0), (11, y281), (12, y283), (28, (m.1 28)), (69, (m.1 69)), (70, (m.1 70)), (71, (m.1 71)), (72, (m.1 72)), (73, (m.1 73)), (74, (m.1 74)), (75, (m.1 75))] [(65, (m.2 65)), (66, (m.2 66)), (67, (m.2 67)), (68, (m.2 68)), (76, (m.2 76)), (77, (m.2 77)), (78, (m.2 78)), (79, (m.2 79)), (80, (m.2 80))]) c N D (by omega) (Ty_mO hT rfl rfl ⟨g274, g276, g278, ⟨(by omega : (0 : Int) ≤ 0), (by omega : (0 : Int) ≤ 8)⟩, g282, g284, f28, f69, f70, f71, f72, f73, f74, f75, trivial⟩ ⟨(hT.2.1 65), (hT.2.1 66), (hT.2.1 67), (hT.2.1 68), (hT.2.1 76), (hT.2.1 77), (hT.2.1 78), (hT.2.1 79), (hT.2.1 80), trivial⟩) 2 12 ⟨by decide, by decide⟩ (show LxP y273 y275 y277 (m.1 6) (0 : Int) by first | exact hLx | (intro h9; exfalso; omega) | (intro h9; have h8 := hLx (by omega); omega)) (show ∀ k, (m.2 14) k + (m.2 15) k ≤ 4000 by first | exact p1 | exact hNM) (show 1 ≤ (2 : Int) ∧ (2 : Int) ≤ 7 ∧ (2 : Int) ≠ 5 by omega) (show 12 ≤ 16 by omega) (show (0 : Int) = 0 → ∀ k, 0 ≤ k → k < (m.1 13) → (m.2 16) k = (2 : Int) → 0 ≤ (m.2 17) k ∧ (m.2 17) k < 12 by first | exact hOL | (intro h; exfalso; omega)) (show (2 : Int) = 3 → 3 ≤ 12 by omega)) (fun rr292 k293 => ?_)
                obtain ⟨y294, y296, y298, y300, y302, y304, oo, g295, g297, g299, g301, g303, g305, g306, h307, h308, h309, h310, h311, h312, rfl⟩ := k293
                refine ⟨_, _, rfl, ?_⟩
                refine T_nf2 (st' := [.int (i32 oo)]) (l' := [(7, y294), (8, y296), (9, y298), (10, y300), (11, y302), (12, y304), (28, (m.1 28)), (69, (m.1 69)), (70, (m.1 70)), (71, (m.1 71)), (72, (m.1 72)), (73, (m.1 73)), (74, (m.1 74)), (75, (m.1 75))]) (a' := [(65, (m.2 65)), (66, (m.2 66)), (67, (m.2 67)), (68, (m.2 68)), (76, (m.2 76)), (77, (m.2 77)), (78, (m.2 78)), (79, (m.2 79)), (80, (m.2 80))]) [7, 8, 9, 10, 11, 12] [] rfl ⟨rfl, rfl, rfl, rfl, rfl, rfl, rfl, rfl, rfl, rfl, rfl, rfl, rfl, rfl, rfl, rfl, rfl, rfl, rfl, rfl, rfl, rfl, rfl, rfl, rfl, rfl, rfl, rfl, trivial⟩ ⟨rfl, rfl, rfl, rfl, rfl, rfl, rfl, rfl, rfl, rfl, rfl, rfl, rfl, rfl, rfl, rfl, rfl, rfl, trivial⟩ rfl rfl (by decide) (by decide) ?_
                obtain ⟨g306a, g306b⟩ := g306
                by_cases hf313 : y300 = 0
                · skip
                  subst hf313
                  replace h307 : LxP y294 y296 y298 (m.1 6) (0 : Int) := h307
                  have hLx := h307
                  replace h308 : y275 ≤ y296 := h308
                  replace h309 : (0 : Int) = 0 ∧ y275 + y277 ≤ y296 := h309 rfl
                  replace h310 : y273 = 1 := h310 rfl
                  replace h311 : 0 ≤ oo ∧ (oo < 12 ∨ oo = 0) := h311
                  replace h312 : oo < 12 := h312 rfl
                  have u314 : (m.1 8) + 1 ≤ y296 := by omega
                  have hAgC : agr (m.2 65) (m.2 65) (m.1 28) := by first | exact agr_r _ _ | exact hAgC | exact agr_t hAgC hAg (by omega)
                  have u315 : 1 ≤ (m.1 73) := by omega
                  clear g274 g276 g278 g282 g284 h285 h287 h288 u290 g301 h308 h309 h310
                  refine T_sto 169 [(2, .int (i32 oo)), (1, .int (i32 (m.1 8))), (0, .ref 189)] rfl (fun _ => rfl) ?_
                  have hAr : ar 404 ≤ 0 + lh (m.2 79) (m.2 80) (m.1 73) := by rw [show ar 404 = 0 from rfl]; omega
                  have hCk : CNk 404 oo := by refine ⟨?_, ?_, ?_, ?_⟩ <;> omega
                  refine T_ld 170 (.ref 189) rfl (fun _ => rfl) ?_
                  refine T_ld 173 (.int (i32 404)) rfl (fun _ => rfl) ?_
                  refine T_ld 174 (.int (i32 1)) rfl (fun _ => rfl) ?_
                  refine T_ld 175 (.int (i32 oo)) rfl (fun _ => rfl) ?_
                  refine T_ld 176 (.long (i64 0)) rfl (fun _ => rfl) ?_
                  refine T_call 179 248 [.ref 189, .int (i32 404), .int (i32 1), .int (i32 oo), .long (i64 0)] [] rfl (fun _ => rfl) rfl (c_node w (mO m [(7, y294), (8, y296), (9, y298), (10, 0), (11, y302), (12, y304), (28, (m.1 28)), (69, (m.1 69)), (70, (m.1 70)), (71, (m.1 71)), (72, (m.1 72)), (73, (m.1 73)), (74, (m.1 74)), (75, (m.1 75))] [(65, (m.2 65)), (66, (m.2 66)), (67, (m.2 67)), (68, (m.2 68)), (76, (m.2 76)), (77, (m.2 77)), (78, (m.2 78)), (79, (m.2 79)), (80, (m.2 80))]) c N D (by omega) (Ty_mO hT rfl rfl ⟨g295, g297, g299, ⟨(by omega : (0 : Int) ≤ 0), (by omega : (0 : Int) ≤ 8)⟩, g303, g305, f28, f69, f70, f71, f72, f73, f74, f75, trivial⟩ ⟨(hT.2.1 65), (hT.2.1 66), (hT.2.1 67), (hT.2.1 68), (hT.2.1 76), (hT.2.1 77), (hT.2.1 78), (hT.2.1 79), (hT.2.1 80), trivial⟩) 404 1 oo 0 B (0 + lh (m.2 79) (m.2 80) (m.1 73)) ⟨by decide, by decide⟩ ⟨by decide, by decide⟩ (r32 (by omega) (by omega)) ⟨by decide, by decide⟩ (fun _ => ⟨(show 0 ≤ (404 : Int) ∧ (404 : Int) ≤ 408 by first | omega | decide), (show 0 ≤ (1 : Int) ∧ (1 : Int) ≤ 64 by first | omega | decide), (show 0 ≤ oo ∧ oo ≤ 191 by first | omega | decide), (show CNk (404 : Int) oo by first | exact hCk | (refine ⟨?_, ?_, ?_, ?_⟩ <;> omega)), (show ar (404 : Int) ≤ (0 + lh (m.2 79) (m.2 80) (m.1 73)) by first | exact hAr | omega), (show EX (m.2 65) (m.2 67) B (m.1 28) (0 + lh (m.2 79) (m.2 80) (m.1 73)) by first | exact hEX | assumption)⟩)) (fun rr316 k317 => ?_)
                  obtain ⟨m318, hT319, h320, c321, rfl⟩ := k317
                  refine ⟨_, _, rfl, ?_⟩
                  refine T_nf2 (st' := []) (l' := [(7, y294), (8, y296), (9, y298), (10, (m318.1 10)), (11, (m318.1 11)), (12, y304), (28, (m318.1 28)), (69, (m.1 69)), (70, (m.1 70)), (71, (m.1 71)), (72, (m.1 72)), (73, (m.1 73)), (74, (m.1 74)), (75, (m.1 75))]) (a' := [(65, (m318.2 65)), (66, (m318.2 66)), (67, (m318.2 67)), (68, (m318.2 68)), (76, (m.2 76)), (77, (m.2 77)), (78, (m.2 78)), (79, (m.2 79)), (80, (m.2 80))]) [10, 11, 28] [65, 66, 67, 68] rfl ⟨rfl, rfl, rfl, rfl, rfl, rfl, rfl, rfl, rfl, rfl, rfl, rfl, rfl, rfl, rfl, rfl, rfl, rfl, rfl, rfl, rfl, rfl, rfl, rfl, rfl, rfl, rfl, rfl, rfl, rfl, rfl, rfl, trivial⟩ ⟨rfl, rfl, rfl, rfl, rfl, rfl, rfl, rfl, rfl, rfl, rfl, rfl, rfl, rfl, rfl, rfl, rfl, rfl, trivial⟩ rfl rfl (by decide) (by decide) ?_
                  have g322 : 0 ≤ m318.1 10 ∧ m318.1 10 ≤ 8 := hT319.1 10
                  have g323 : (-1) ≤ m318.1 11 ∧ m318.1 11 ≤ 4000 := hT319.1 11
                  have g324 : 0 ≤ m318.1 28 ∧ m318.1 28 ≤ 800 := hT319.1 28
                  by_cases hf325 : (m318.1 10) = 0
                  · skip
                    replace h320 : (0 : Int) = 0 := h320 hf325
                    obtain ⟨c326, c327, c328⟩ := c321 hf325
                    replace c326 : (m318.1 28) = (m.1 28) + 1 := c326
                    replace c327 : EX (m318.2 65) (m318.2 67) B (m318.1 28) ((0 + lh (m.2 79) (m.2 80) (m.1 73)) + 1 - ar (404 : Int)) := c327
                    have hEX := c327
                    replace c328 : agr (m.2 65) (m318.2 65) (m.1 28) := c328
                    have hAg := c328
                    clear c321
                    have u329 : (m.1 8) + 1 ≤ y296 := by omega
                    have hAgC : agr (m.2 65) (m318.2 65) (m.1 28) := by first | exact agr_r _ _ | exact hAgC | exact agr_t hAgC hAg (by omega)
                    have u330 : 1 ≤ (m.1 73) := by omega
                    clear g303
                    refine T_ld 180 (.ref 189) rfl (fun _ => rfl) ?_
                    refine T_ld 181 (.int (i32 1)) rfl (fun _ => rfl) ?_
                    refine T_ld 182 (.int (i32 (m.1 8))) rfl (fun _ => rfl) ?_
                    refine T_call 185 249 [.ref 189, .int (i32 1), .int (i32 (m.1 8))] [] rfl (fun _ => rfl) rfl (c_atom w (mO m [(7, y294), (8, y296), (9, y298), (10, (m318.1 10)), (11, (m318.1 11)), (12, y304), (28, (m318.1 28)), (69, (m.1 69)), (70, (m.1 70)), (71, (m.1 71)), (72, (m.1 72)), (73, (m.1 73)), (74, (m.1 74)), (75, (m.1 75))] [(65, (m318.2 65)), (66, (m318.2 66)), (67, (m318.2 67)), (68, (m318.2 68)), (76, (m.2 76)), (77, (m.2 77)), (78, (m.2 78)), (79, (m.2 79)), (80, (m.2 80))]) c N D (by omega) (Ty_mO hT rfl rfl ⟨g295, g297, g299, (hT319.1 10), (hT319.1 11), g305, (hT319.1 28), f69, f70, f71, f72, f73, f74, f75, trivial⟩ ⟨(hT319.2.1 65), (hT319.2.1 66), (hT319.2.1 67), (hT319.2.1 68), (hT.2.1 76), (hT.2.1 77), (hT.2.1 78), (hT.2.1 79), (hT.2.1 80), trivial⟩) 1 (m.1 8) ⟨by decide, by decide⟩ (r32 (by omega) (by omega)) (show 0 ≤ (1 : Int) ∧ (1 : Int) ≤ 64 by omega) (show 0 ≤ (m.1 8) ∧ (m.1 8) ≤ 4000 by omega)) (fun rr331 k332 => ?_)
                    obtain ⟨m333, hT334, h335, rfl⟩ := k332
                    refine ⟨_, _, rfl, ?_⟩
                    refine T_nf2 (st' := []) (l' := [(7, y294), (8, y296), (9, y298), (10, (m318.1 10)), (11, (m318.1 11)), (12, y304), (28, (m318.1 28)), (69, (m333.1 69)), (70, (m333.1 70)), (71, (m333.1 71)), (72, (m333.1 72)), (73, (m.1 73)), (74, (m.1 74)), (75, (m333.1 75))]) (a' := [(65, (m318.2 65)), (66, (m318.2 66)), (67, (m318.2 67)), (68, (m318.2 68)), (76, (m.2 76)), (77, (m.2 77)), (78, (m.2 78)), (79, (m.2 79)), (80, (m.2 80))]) [69, 70, 71, 72, 75] [] rfl ⟨rfl, rfl, rfl, rfl, rfl, rfl, rfl, rfl, rfl, rfl, rfl, rfl, rfl, rfl, rfl, rfl, rfl, rfl, rfl, rfl, rfl, rfl, rfl, rfl, rfl, rfl, rfl, rfl, rfl, rfl, rfl, rfl, rfl, rfl, rfl, rfl, rfl, trivial⟩ ⟨rfl, rfl, rfl, rfl, rfl, rfl, rfl, rfl, rfl, rfl, rfl, rfl, rfl, rfl, rfl, rfl, rfl, rfl, trivial⟩ rfl rfl (by decide) (by decide) ?_
                    have g336 : 0 ≤ m333.1 69 ∧ m333.1 69 ≤ 1024 := hT334.1 69
                    have g337 : 0 ≤ m333.1 70 ∧ m333.1 70 ≤ 4000 := hT334.1 70
                    have g338 : 0 ≤ m333.1 71 ∧ m333.1 71 ≤ 1 := hT334.1 71
                    have g339 : (-9223372036854775808) ≤ m333.1 72 ∧ m333.1 72 ≤ 9223372036854775807 := hT334.1 72
                    have g340 : 0 ≤ m333.1 75 ∧ m333.1 75 ≤ 3 := hT334.1 75
                    replace h335 : (m318.1 10) = 0 → (m333.1 75) = 1 ∧ (m333.1 69) = (1 : Int) := h335
                    have u341 : (m.1 8) + 1 ≤ y296 := by omega
                    have hAgC : agr (m.2 65) (m318.2 65) (m.1 28) := by first | exact agr_r _ _ | exact hAgC | exact agr_t hAgC hAg (by omega)
                    have u342 : 1 ≤ (m.1 73) := by omega
                    have hXE : XS (m318.2 65) (m318.2 67) (m.2 76) (m.2 78) (m.2 79) (m.2 80) B (m318.1 28) (m.1 73) (m.1 74) (um (m333.1 75)) := by
                      rw [show um (m333.1 75) = 1 from if_neg (by omega)]
                      exact XS_of hXS hEX (by rw [show ar 404 = 0 from rfl]; omega)
                    refine T_goto 219 rfl (fun _ => rfl) ?_
                    refine T_ret rfl (fun _ => rfl) ?_
                    exact ⟨(mO m [(7, y294), (8, y296), (9, y298), (10, (m318.1 10)), (11, (m318.1 11)), (12, y304), (28, (m318.1 28)), (69, (m333.1 69)), (70, (m333.1 70)), (71, (m333.1 71)), (72, (m333.1 72)), (73, (m.1 73)), (74, (m.1 74)), (75, (m333.1 75))] [(65, (m318.2 65)), (66, (m318.2 66)), (67, (m318.2 67)), (68, (m318.2 68)), (76, (m.2 76)), (77, (m.2 77)), (78, (m.2 78)), (79, (m.2 79)), (80, (m.2 80))]), (Ty_mO hT rfl rfl ⟨g295, g297, g299, (hT319.1 10), (hT319.1 11), g305, (hT319.1 28), (hT334.1 69), (hT334.1 70), (hT334.1 71), (hT334.1 72), f73, f74, (hT334.1 75), trivial⟩ ⟨(hT319.2.1 65), (hT319.2.1 66), (hT319.2.1 67), (hT319.2.1 68), (hT.2.1 76), (hT.2.1 77), (hT.2.1 78), (hT.2.1 79), (hT.2.1 80), trivial⟩), (show (m318.1 10) = 0 → (m.1 10) = 0 by omega), (show LxP y294 y296 y298 (m.1 6) (m318.1 10) by first | (first | exact hLx | exact (fun _ => hLx (by omega)) | (intro h9; exfalso; omega)) | (exfalso; omega)), (fun _ => ⟨(show (m.1 8) + 1 ≤ y296 by omega), (show (m333.1 75) = 0 ∨ ((m333.1 75) = 1 ∧ (m333.1 69) ≤ 64) by omega), (show 1 ≤ (m.1 73) by omega), (show (m.1 28) ≤ (m318.1 28) by omega), (show XS (m318.2 65) (m318.2 67) (m.2 76) (m.2 78) (m.2 79) (m.2 80) B (m318.1 28) (m.1 73) (m.1 74) (um (m333.1 75)) by first | (exact hXE) | (exfalso; omega)), (show agr (m.2 65) (m318.2 65) (m.1 28) by first | (exact hAgC) | (exfalso; omega))⟩), rfl⟩
                  · skip
                    clear c321
                    clear h320
                    have hf343 : 1 ≤ (m318.1 10) := by omega
                    clear g303
                    refine Tm_lv (a := [(0, .ref 189), (1, .int (i32 (m.1 8))), (2, .int (i32 oo))]) rfl rfl ⟨rfl, rfl, rfl, trivial⟩ ?_
                    exact J179_25 oo (mO m [(7, y294), (8, y296), (9, y298), (10, (m318.1 10)), (11, (m318.1 11)), (12, y304), (28, (m318.1 28)), (69, (m.1 69)), (70, (m.1 70)), (71, (m.1 71)), (72, (m.1 72)), (73, (m.1 73)), (74, (m.1 74)), (75, (m.1 75))] [(65, (m318.2 65)), (66, (m318.2 66)), (67, (m318.2 67)), (68, (m318.2 68)), (76, (m.2 76)), (77, (m.2 77)), (78, (m.2 78)), (79, (m.2 79)), (80, (m.2 80))]) (r32 (by omega) (by omega)) (Ty_mO hT rfl rfl ⟨g295, g297, g299, (hT319.1 10), (hT319.1 11), g305, (hT319.1 28), f69, f70, f71, f72, f73, f74, f75, trivial⟩ ⟨(hT319.2.1 65), (hT319.2.1 66), (hT319.2.1 67), (hT319.2.1 68), (hT.2.1 76), (hT.2.1 77), (hT.2.1 78), (hT.2.1 79), (hT.2.1 80), trivial⟩) (show 0 ≤ oo by omega) (show oo ≤ 11 by omega) (show 1 ≤ (m318.1 10) by omega) (show (m318.1 10) ≤ 8 by omega) (show 0 ≤ (m.1 8) ∧ (m.1 8) ≤ 4000 by omega)
                · skip
                  replace h307 : LxP y294 y296 y298 (m.1 6) y300 := h307
                  have hLx := h307
                  replace h308 : y275 ≤ y296 := h308
                  clear h309
                  clear h310
                  replace h311 : 0 ≤ oo ∧ (oo < 12 ∨ oo = 0) := h311
                  clear h312
                  have hf344 : 1 ≤ y300 := by omega
                  clear g274 g276 g278 g282 g284 h285 h287 h288 u290 h308
                  refine Tm_lv (a := [(0, .ref 189), (1, .int (i32 (m.1 8)))]) rfl rfl ⟨rfl, rfl, trivial⟩ ?_
                  exact J168_46 oo (mO m [(7, y294), (8, y296), (9, y298), (10, y300), (11, y302), (12, y304), (28, (m.1 28)), (69, (m.1 69)), (70, (m.1 70)), (71, (m.1 71)), (72, (m.1 72)), (73, (m.1 73)), (74, (m.1 74)), (75, (m.1 75))] [(65, (m.2 65)), (66, (m.2 66)), (67, (m.2 67)), (68, (m.2 68)), (76, (m.2 76)), (77, (m.2 77)), (78, (m.2 78)), (79, (m.2 79)), (80, (m.2 80))]) (r32 (by omega) (by omega)) (Ty_mO hT rfl rfl ⟨g295, g297, g299, g301, g303, g305, f28, f69, f70, f71, f72, f73, f74, f75, trivial⟩ ⟨(hT.2.1 65), (hT.2.1 66), (hT.2.1 67), (hT.2.1 68), (hT.2.1 76), (hT.2.1 77), (hT.2.1 78), (hT.2.1 79), (hT.2.1 80), trivial⟩) (show 0 ≤ oo by omega) (show oo ≤ 11 by omega) (show 1 ≤ y300 by omega) (show y300 ≤ 8 by omega) (show 0 ≤ (m.1 8) ∧ (m.1 8) ≤ 4000 by omega)
              · skip
                replace h285 : LxP y273 y275 y277 (m.1 6) y279 := h285
                have hLx := h285
                clear h286
                replace h287 : (m.1 8) ≤ y275 := h287
                clear h288
                have hf345 : 1 ≤ y279 := by omega
                refine T_ld 164 (.ref 189) rfl (fun _ => rfl) ?_
                refine T_ld 165 (.int (i32 2)) rfl (fun _ => rfl) ?_
                refine T_call 168 236 [.ref 189, .int (i32 2)] [] rfl (fun _ => rfl) rfl (c_oldName w (mO m [(7, y273), (8, y275), (9, y277), (10, y279), (11, y281), (12, y283), (28, (m.1 28)), (69, (m.1 69)), (70, (m.1 70)), (71, (m.1 71)), (72, (m.1 72)), (73, (m.1 73)), (74, (m.1 74)), (75, (m.1 75))] [(65, (m.2 65)), (66, (m.2 66)), (67, (m.2 67)), (68, (m.2 68)), (76, (m.2 76)), (77, (m.2 77)), (78, (m.2 78)), (79, (m.2 79)), (80, (m.2 80))]) c N D (by omega) (Ty_mO hT rfl rfl ⟨g274, g276, g278, g280, g282, g284, f28, f69, f70, f71, f72, f73, f74, f75, trivial⟩ ⟨(hT.2.1 65), (hT.2.1 66), (hT.2.1 67), (hT.2.1 68), (hT.2.1 76), (hT.2.1 77), (hT.2.1 78), (hT.2.1 79), (hT.2.1 80), trivial⟩) 2 12 ⟨by decide, by decide⟩ (show LxP y273 y275 y277 (m.1 6) y279 by first | exact hLx | (intro h9; exfalso; omega) | (intro h9; have h8 := hLx (by omega); omega)) (show ∀ k, (m.2 14) k + (m.2 15) k ≤ 4000 by first | exact p1 | exact hNM) (show 1 ≤ (2 : Int) ∧ (2 : Int) ≤ 7 ∧ (2 : Int) ≠ 5 by omega) (show 12 ≤ 16 by omega) (show y279 = 0 → ∀ k, 0 ≤ k → k < (m.1 13) → (m.2 16) k = (2 : Int) → 0 ≤ (m.2 17) k ∧ (m.2 17) k < 12 by first | exact hOL | (intro h; exfalso; omega)) (show (2 : Int) = 3 → 3 ≤ 12 by omega)) (fun rr346 k347 => ?_)
                obtain ⟨y348, y350, y352, y354, y356, y358, oo, g349, g351, g353, g355, g357, g359, g360, h361, h362, h363, h364, h365, h366, rfl⟩ := k347
                refine ⟨_, _, rfl, ?_⟩
                refine T_nf2 (st' := [.int (i32 oo)]) (l' := [(7, y348), (8, y350), (9, y352), (10, y354), (11, y356), (12, y358), (28, (m.1 28)), (69, (m.1 69)), (70, (m.1 70)), (71, (m.1 71)), (72, (m.1 72)), (73, (m.1 73)), (74, (m.1 74)), (75, (m.1 75))]) (a' := [(65, (m.2 65)), (66, (m.2 66)), (67, (m.2 67)), (68, (m.2 68)), (76, (m.2 76)), (77, (m.2 77)), (78, (m.2 78)), (79, (m.2 79)), (80, (m.2 80))]) [7, 8, 9, 10, 11, 12] [] rfl ⟨rfl, rfl, rfl, rfl, rfl, rfl, rfl, rfl, rfl, rfl, rfl, rfl, rfl, rfl, rfl, rfl, rfl, rfl, rfl, rfl, rfl, rfl, rfl, rfl, rfl, rfl, rfl, rfl, trivial⟩ ⟨rfl, rfl, rfl, rfl, rfl, rfl, rfl, rfl, rfl, rfl, rfl, rfl, rfl, rfl, rfl, rfl, rfl, rfl, trivial⟩ rfl rfl (by decide) (by decide) ?_
                obtain ⟨g360a, g360b⟩ := g360
                replace h361 : LxP y348 y350 y352 (m.1 6) y354 := h361
                replace h362 : y275 ≤ y350 := h362
                replace h363 : y354 = 0 → y279 = 0 ∧ y275 + y277 ≤ y350 := h363
                replace h364 : y354 = 0 → y273 = 1 := h364
                replace h365 : 0 ≤ oo ∧ (oo < 12 ∨ oo = 0) := h365
                replace h366 : y354 = 0 → oo < 12 := h366
                have hf367 : 1 ≤ y354 := by omega
                clear h363
                clear h364
                clear h366
                have hLx := h361
                clear g274 g276 g278 g280 g282 g284 h285 h287 hf345 h362
                refine Tm_lv (a := [(0, .ref 189), (1, .int (i32 (m.1 8)))]) rfl rfl ⟨rfl, rfl, trivial⟩ ?_
                exact J168_46 oo (mO m [(7, y348), (8, y350), (9, y352), (10, y354), (11, y356), (12, y358), (28, (m.1 28)), (69, (m.1 69)), (70, (m.1 70)), (71, (m.1 71)), (72, (m.1 72)), (73, (m.1 73)), (74, (m.1 74)), (75, (m.1 75))] [(65, (m.2 65)), (66, (m.2 66)), (67, (m.2 67)), (68, (m.2 68)), (76, (m.2 76)), (77, (m.2 77)), (78, (m.2 78)), (79, (m.2 79)), (80, (m.2 80))]) (r32 (by omega) (by omega)) (Ty_mO hT rfl rfl ⟨g349, g351, g353, g355, g357, g359, f28, f69, f70, f71, f72, f73, f74, f75, trivial⟩ ⟨(hT.2.1 65), (hT.2.1 66), (hT.2.1 67), (hT.2.1 68), (hT.2.1 76), (hT.2.1 77), (hT.2.1 78), (hT.2.1 79), (hT.2.1 80), trivial⟩) (show 0 ≤ oo by omega) (show oo ≤ 11 by omega) (show 1 ≤ y354 by omega) (show y354 ≤ 8 by omega) (show 0 ≤ (m.1 8) ∧ (m.1 8) ≤ 4000 by omega)
          · skip
            refine T_ld 142 (.ref 189) rfl (fun _ => rfl) ?_
            refine T_ld 143 (.int (i32 (m.1 8))) rfl (fun _ => rfl) ?_
            refine T_call 146 251 [.ref 189, .int (i32 (m.1 8))] [] rfl (fun _ => rfl) rfl (c_takeName w (mO m [(7, (m.1 7)), (8, (m.1 8)), (9, (m.1 9)), (10, (m.1 10)), (11, (m.1 11)), (12, (m.1 12)), (28, (m.1 28)), (69, (m.1 69)), (70, (m.1 70)), (71, (m.1 71)), (72, (m.1 72)), (73, (m.1 73)), (74, (m.1 74)), (75, (m.1 75))] [(65, (m.2 65)), (66, (m.2 66)), (67, (m.2 67)), (68, (m.2 68)), (76, (m.2 76)), (77, (m.2 77)), (78, (m.2 78)), (79, (m.2 79)), (80, (m.2 80))]) c N D (by omega) (Ty_mO hT rfl rfl ⟨f7, f8, f9, f10, f11, f12, f28, f69, f70, f71, f72, f73, f74, f75, trivial⟩ ⟨(hT.2.1 65), (hT.2.1 66), (hT.2.1 67), (hT.2.1 68), (hT.2.1 76), (hT.2.1 77), (hT.2.1 78), (hT.2.1 79), (hT.2.1 80), trivial⟩) (m.1 8) B (0 + lh (m.2 79) (m.2 80) (m.1 73)) (r32 (by omega) (by omega)) (show LxP (m.1 7) (m.1 8) (m.1 9) (m.1 6) (m.1 10) by first | exact hLx | exact (fun _ => hLx (by omega)) | (intro h9; exfalso; omega)) (show ∀ k, (m.2 14) k + (m.2 15) k ≤ 4000 by assumption) (show ∀ k, (m.2 31) k + (m.2 32) k ≤ 4000 by assumption) (show ∀ k, (m.2 47) k + (m.2 48) k ≤ 4000 by assumption) (show 0 ≤ (m.1 8) ∧ (m.1 8) ≤ 4000 by omega) (show (m.1 10) = 0 by omega) ⟨(show PN (m.1 13) (m.1 19) (m.1 20) (m.1 21) (m.1 22) (m.1 23) (m.1 25) (m.1 26) (m.2 16) (m.2 17) by assumption), (show (m.1 7) = 1 by omega), (show EX (m.2 65) (m.2 67) B (m.1 28) (0 + lh (m.2 79) (m.2 80) (m.1 73)) by exact hEX), (show 0 ≤ (0 + lh (m.2 79) (m.2 80) (m.1 73)) by omega)⟩) (fun rr368 k369 => ?_)
            obtain ⟨m370, hT371, h372, h373, c374, rfl⟩ := k369
            refine ⟨_, _, rfl, ?_⟩
            refine T_nf2 (st' := []) (l' := [(7, (m370.1 7)), (8, (m370.1 8)), (9, (m370.1 9)), (10, (m370.1 10)), (11, (m370.1 11)), (12, (m370.1 12)), (28, (m370.1 28)), (69, (m370.1 69)), (70, (m370.1 70)), (71, (m370.1 71)), (72, (m370.1 72)), (73, (m.1 73)), (74, (m.1 74)), (75, (m370.1 75))]) (a' := [(65, (m370.2 65)), (66, (m370.2 66)), (67, (m370.2 67)), (68, (m370.2 68)), (76, (m.2 76)), (77, (m.2 77)), (78, (m.2 78)), (79, (m.2 79)), (80, (m.2 80))]) [7, 8, 9, 10, 11, 12, 28, 69, 70, 71, 72, 75] [65, 66, 67, 68] rfl ⟨rfl, rfl, rfl, rfl, rfl, rfl, rfl, rfl, rfl, rfl, rfl, rfl, rfl, rfl, rfl, rfl, rfl, rfl, rfl, rfl, rfl, rfl, rfl, rfl, rfl, rfl, rfl, rfl, rfl, rfl, trivial⟩ ⟨rfl, rfl, rfl, rfl, rfl, rfl, rfl, rfl, rfl, rfl, rfl, rfl, rfl, rfl, rfl, rfl, rfl, rfl, trivial⟩ rfl rfl (by decide) (by decide) ?_
            have g375 : 0 ≤ m370.1 7 ∧ m370.1 7 ≤ 330 := hT371.1 7
            have g376 : 0 ≤ m370.1 8 ∧ m370.1 8 ≤ 4000 := hT371.1 8
            have g377 : 0 ≤ m370.1 9 ∧ m370.1 9 ≤ 4000 := hT371.1 9
            have g378 : 0 ≤ m370.1 10 ∧ m370.1 10 ≤ 8 := hT371.1 10
            have g379 : (-1) ≤ m370.1 11 ∧ m370.1 11 ≤ 4000 := hT371.1 11
            have g380 : (-9223372036854775808) ≤ m370.1 12 ∧ m370.1 12 ≤ 9223372036854775807 := hT371.1 12
            have g381 : 0 ≤ m370.1 28 ∧ m370.1 28 ≤ 800 := hT371.1 28
            have g382 : 0 ≤ m370.1 69 ∧ m370.1 69 ≤ 1024 := hT371.1 69
            have g383 : 0 ≤ m370.1 70 ∧ m370.1 70 ≤ 4000 := hT371.1 70
            have g384 : 0 ≤ m370.1 71 ∧ m370.1 71 ≤ 1 := hT371.1 71
            have g385 : (-9223372036854775808) ≤ m370.1 72 ∧ m370.1 72 ≤ 9223372036854775807 := hT371.1 72
            have g386 : 0 ≤ m370.1 75 ∧ m370.1 75 ≤ 3 := hT371.1 75
            by_cases hf387 : (m370.1 10) = 0
            · skip
              replace h372 : (m.1 10) = 0 := h372 hf387
              replace h373 : LxP (m370.1 7) (m370.1 8) (m370.1 9) (m.1 6) (m370.1 10) := h373
              have hLx := h373
              obtain ⟨c388, c389, c390, c391, c392, c393⟩ := c374 hf387
              replace c388 : (m.1 8) + 1 ≤ (m370.1 8) := c388
              replace c389 : (m370.1 75) = 1 := c389
              replace c390 : (m370.1 69) ≤ 64 := c390
              replace c391 : (m370.1 28) = (m.1 28) + 1 := c391
              replace c392 : EX (m370.2 65) (m370.2 67) B (m370.1 28) ((0 + lh (m.2 79) (m.2 80) (m.1 73)) + 1) := c392
              have hEX := c392
              replace c393 : agr (m.2 65) (m370.2 65) (m.1 28) := c393
              have hAg := c393
              clear c374
              have u394 : (m.1 8) + 1 ≤ (m370.1 8) := by omega
              have hAgC : agr (m.2 65) (m370.2 65) (m.1 28) := by first | exact agr_r _ _ | exact hAgC | exact agr_t hAgC hAg (by omega)
              have u395 : 1 ≤ (m.1 73) := by omega
              have hXE : XS (m370.2 65) (m370.2 67) (m.2 76) (m.2 78) (m.2 79) (m.2 80) B (m370.1 28) (m.1 73) (m.1 74) (um (m370.1 75)) := by
                rw [show um (m370.1 75) = 1 from if_neg (by omega)]
                exact XS_of hXS hEX (by omega)
              refine T_goto 219 rfl (fun _ => rfl) ?_
              refine T_ret rfl (fun _ => rfl) ?_
              exact ⟨(mO m [(7, (m370.1 7)), (8, (m370.1 8)), (9, (m370.1 9)), (10, (m370.1 10)), (11, (m370.1 11)), (12, (m370.1 12)), (28, (m370.1 28)), (69, (m370.1 69)), (70, (m370.1 70)), (71, (m370.1 71)), (72, (m370.1 72)), (73, (m.1 73)), (74, (m.1 74)), (75, (m370.1 75))] [(65, (m370.2 65)), (66, (m370.2 66)), (67, (m370.2 67)), (68, (m370.2 68)), (76, (m.2 76)), (77, (m.2 77)), (78, (m.2 78)), (79, (m.2 79)), (80, (m.2 80))]), (Ty_mO hT rfl rfl ⟨(hT371.1 7), (hT371.1 8), (hT371.1 9), (hT371.1 10), (hT371.1 11), (hT371.1 12), (hT371.1 28), (hT371.1 69), (hT371.1 70), (hT371.1 71), (hT371.1 72), f73, f74, (hT371.1 75), trivial⟩ ⟨(hT371.2.1 65), (hT371.2.1 66), (hT371.2.1 67), (hT371.2.1 68), (hT.2.1 76), (hT.2.1 77), (hT.2.1 78), (hT.2.1 79), (hT.2.1 80), trivial⟩), (show (m370.1 10) = 0 → (m.1 10) = 0 by omega), (show LxP (m370.1 7) (m370.1 8) (m370.1 9) (m.1 6) (m370.1 10) by first | (first | exact hLx | exact (fun _ => hLx (by omega)) | (intro h9; exfalso; omega)) | (exfalso; omega)), (fun _ => ⟨(show (m.1 8) + 1 ≤ (m370.1 8) by omega), (show (m370.1 75) = 0 ∨ ((m370.1 75) = 1 ∧ (m370.1 69) ≤ 64) by omega), (show 1 ≤ (m.1 73) by omega), (show (m.1 28) ≤ (m370.1 28) by omega), (show XS (m370.2 65) (m370.2 67) (m.2 76) (m.2 78) (m.2 79) (m.2 80) B (m370.1 28) (m.1 73) (m.1 74) (um (m370.1 75)) by first | (exact hXE) | (exfalso; omega)), (show agr (m.2 65) (m370.2 65) (m.1 28) by first | (exact hAgC) | (exfalso; omega))⟩), rfl⟩
            · skip
              clear c374
              clear h372
              replace h373 : LxP (m370.1 7) (m370.1 8) (m370.1 9) (m.1 6) (m370.1 10) := h373
              have hLx := h373
              have hf396 : 1 ≤ (m370.1 10) := by omega
              refine T_goto 219 rfl (fun _ => rfl) ?_
              refine T_ret rfl (fun _ => rfl) ?_
              exact ⟨(mO m [(7, (m370.1 7)), (8, (m370.1 8)), (9, (m370.1 9)), (10, (m370.1 10)), (11, (m370.1 11)), (12, (m370.1 12)), (28, (m370.1 28)), (69, (m370.1 69)), (70, (m370.1 70)), (71, (m370.1 71)), (72, (m370.1 72)), (73, (m.1 73)), (74, (m.1 74)), (75, (m370.1 75))] [(65, (m370.2 65)), (66, (m370.2 66)), (67, (m370.2 67)), (68, (m370.2 68)), (76, (m.2 76)), (77, (m.2 77)), (78, (m.2 78)), (79, (m.2 79)), (80, (m.2 80))]), (Ty_mO hT rfl rfl ⟨(hT371.1 7), (hT371.1 8), (hT371.1 9), (hT371.1 10), (hT371.1 11), (hT371.1 12), (hT371.1 28), (hT371.1 69), (hT371.1 70), (hT371.1 71), (hT371.1 72), f73, f74, (hT371.1 75), trivial⟩ ⟨(hT371.2.1 65), (hT371.2.1 66), (hT371.2.1 67), (hT371.2.1 68), (hT.2.1 76), (hT.2.1 77), (hT.2.1 78), (hT.2.1 79), (hT.2.1 80), trivial⟩), (show (m370.1 10) = 0 → (m.1 10) = 0 by omega), (show LxP (m370.1 7) (m370.1 8) (m370.1 9) (m.1 6) (m370.1 10) by first | (first | exact hLx | exact (fun _ => hLx (by omega)) | (intro h9; exfalso; omega)) | (exfalso; omega)), (fun (h : (m370.1 10) = 0) => absurd h (by omega)), rfl⟩
        · skip
          refine T_gf 97 (.long (i64 (m.1 12))) rfl rfl rfl rfl rfl rfl ?_
          refine T_sto 98 [(2, .long (i64 (m.1 12))), (1, .int (i32 (m.1 8))), (0, .ref 189)] rfl (fun _ => rfl) ?_
          refine T_ld 99 (.ref 189) rfl (fun _ => rfl) ?_
          refine T_call 102 212 [.ref 189] [] rfl (fun _ => rfl) rfl (c_next w (mO m [(7, (m.1 7)), (8, (m.1 8)), (9, (m.1 9)), (10, (m.1 10)), (11, (m.1 11)), (12, (m.1 12)), (28, (m.1 28)), (69, (m.1 69)), (70, (m.1 70)), (71, (m.1 71)), (72, (m.1 72)), (73, (m.1 73)), (74, (m.1 74)), (75, (m.1 75))] [(65, (m.2 65)), (66, (m.2 66)), (67, (m.2 67)), (68, (m.2 68)), (76, (m.2 76)), (77, (m.2 77)), (78, (m.2 78)), (79, (m.2 79)), (80, (m.2 80))]) c N D (by omega) (Ty_mO hT rfl rfl ⟨f7, f8, f9, f10, f11, f12, f28, f69, f70, f71, f72, f73, f74, f75, trivial⟩ ⟨(hT.2.1 65), (hT.2.1 66), (hT.2.1 67), (hT.2.1 68), (hT.2.1 76), (hT.2.1 77), (hT.2.1 78), (hT.2.1 79), (hT.2.1 80), trivial⟩) (show (m.1 10) = 0 → (m.1 8) + (m.1 9) ≤ (m.1 6) by first | omega | (intro h9; have h8 := hLx h9; omega))) (fun rr397 k398 => ?_)
          obtain ⟨y399, y401, y403, y405, y407, y409, g400, g402, g404, g406, g408, g410, h411, h412, h413, h414, rfl⟩ := k398
          refine ⟨_, _, rfl, ?_⟩
          refine T_nf2 (st' := []) (l' := [(7, y399), (8, y401), (9, y403), (10, y405), (11, y407), (12, y409), (28, (m.1 28)), (69, (m.1 69)), (70, (m.1 70)), (71, (m.1 71)), (72, (m.1 72)), (73, (m.1 73)), (74, (m.1 74)), (75, (m.1 75))]) (a' := [(65, (m.2 65)), (66, (m.2 66)), (67, (m.2 67)), (68, (m.2 68)), (76, (m.2 76)), (77, (m.2 77)), (78, (m.2 78)), (79, (m.2 79)), (80, (m.2 80))]) [7, 8, 9, 10, 11, 12] [] rfl ⟨rfl, rfl, rfl, rfl, rfl, rfl, rfl, rfl, rfl, rfl, rfl, rfl, rfl, rfl, rfl, rfl, rfl, rfl, rfl, rfl, rfl, rfl, rfl, rfl, rfl, rfl, rfl, rfl, trivial⟩ ⟨rfl, rfl, rfl, rfl, rfl, rfl, rfl, rfl, rfl, rfl, rfl, rfl, rfl, rfl, rfl, rfl, rfl, rfl, trivial⟩ rfl rfl (by decide) (by decide) ?_
          by_cases hf415 : y405 = 0
          · skip
            subst hf415
            replace h411 : LxP y399 y401 y403 (m.1 6) (0 : Int) := h411
            have hLx := h411
            replace h412 : (m.1 10) = 0 := h412 rfl
            replace h413 : (m.1 8) ≤ y401 := h413
            replace h414 : (m.1 8) + (m.1 9) ≤ y401 := h414 rfl
            have u416 : (m.1 8) + 1 ≤ y401 := by omega
            have hAgC : agr (m.2 65) (m.2 65) (m.1 28) := by first | exact agr_r _ _ | exact hAgC | exact agr_t hAgC hAg (by omega)
            have u417 : 1 ≤ (m.1 73) := by omega
            clear g406
            have hAr : ar 400 ≤ 0 + lh (m.2 79) (m.2 80) (m.1 73) := by rw [show ar 400 = 0 from rfl]; omega
            have hCk : CNk 400 0 := by refine ⟨?_, ?_, ?_, ?_⟩ <;> omega
            refine T_ld 103 (.ref 189) rfl (fun _ => rfl) ?_
            refine T_ld 106 (.int (i32 400)) rfl (fun _ => rfl) ?_
            refine T_ld 108 (.int (i32 64)) rfl (fun _ => rfl) ?_
            refine T_ld 109 (.int (i32 0)) rfl (fun _ => rfl) ?_
            refine T_ld 110 (.long (i64 (m.1 12))) rfl (fun _ => rfl) ?_
            refine T_call 113 248 [.ref 189, .int (i32 400), .int (i32 64), .int (i32 0), .long (i64 (m.1 12))] [] rfl (fun _ => rfl) rfl (c_node w (mO m [(7, y399), (8, y401), (9, y403), (10, 0), (11, y407), (12, y409), (28, (m.1 28)), (69, (m.1 69)), (70, (m.1 70)), (71, (m.1 71)), (72, (m.1 72)), (73, (m.1 73)), (74, (m.1 74)), (75, (m.1 75))] [(65, (m.2 65)), (66, (m.2 66)), (67, (m.2 67)), (68, (m.2 68)), (76, (m.2 76)), (77, (m.2 77)), (78, (m.2 78)), (79, (m.2 79)), (80, (m.2 80))]) c N D (by omega) (Ty_mO hT rfl rfl ⟨g400, g402, g404, ⟨(by omega : (0 : Int) ≤ 0), (by omega : (0 : Int) ≤ 8)⟩, g408, g410, f28, f69, f70, f71, f72, f73, f74, f75, trivial⟩ ⟨(hT.2.1 65), (hT.2.1 66), (hT.2.1 67), (hT.2.1 68), (hT.2.1 76), (hT.2.1 77), (hT.2.1 78), (hT.2.1 79), (hT.2.1 80), trivial⟩) 400 64 0 (m.1 12) B (0 + lh (m.2 79) (m.2 80) (m.1 73)) ⟨by decide, by decide⟩ ⟨by decide, by decide⟩ ⟨by decide, by decide⟩ (r64 (by omega) (by omega)) (fun _ => ⟨(show 0 ≤ (400 : Int) ∧ (400 : Int) ≤ 408 by first | omega | decide), (show 0 ≤ (64 : Int) ∧ (64 : Int) ≤ 64 by first | omega | decide), (show 0 ≤ (0 : Int) ∧ (0 : Int) ≤ 191 by first | omega | decide), (show CNk (400 : Int) (0 : Int) by first | exact hCk | (refine ⟨?_, ?_, ?_, ?_⟩ <;> omega)), (show ar (400 : Int) ≤ (0 + lh (m.2 79) (m.2 80) (m.1 73)) by first | exact hAr | omega), (show EX (m.2 65) (m.2 67) B (m.1 28) (0 + lh (m.2 79) (m.2 80) (m.1 73)) by first | exact hEX | assumption)⟩)) (fun rr418 k419 => ?_)
            obtain ⟨m420, hT421, h422, c423, rfl⟩ := k419
            refine ⟨_, _, rfl, ?_⟩
            refine T_nf2 (st' := []) (l' := [(7, y399), (8, y401), (9, y403), (10, (m420.1 10)), (11, (m420.1 11)), (12, y409), (28, (m420.1 28)), (69, (m.1 69)), (70, (m.1 70)), (71, (m.1 71)), (72, (m.1 72)), (73, (m.1 73)), (74, (m.1 74)), (75, (m.1 75))]) (a' := [(65, (m420.2 65)), (66, (m420.2 66)), (67, (m420.2 67)), (68, (m420.2 68)), (76, (m.2 76)), (77, (m.2 77)), (78, (m.2 78)), (79, (m.2 79)), (80, (m.2 80))]) [10, 11, 28] [65, 66, 67, 68] rfl ⟨rfl, rfl, rfl, rfl, rfl, rfl, rfl, rfl, rfl, rfl, rfl, rfl, rfl, rfl, rfl, rfl, rfl, rfl, rfl, rfl, rfl, rfl, rfl, rfl, rfl, rfl, rfl, rfl, rfl, rfl, rfl, rfl, trivial⟩ ⟨rfl, rfl, rfl, rfl, rfl, rfl, rfl, rfl, rfl, rfl, rfl, rfl, rfl, rfl, rfl, rfl, rfl, rfl, trivial⟩ rfl rfl (by decide) (by decide) ?_
            have g424 : 0 ≤ m420.1 10 ∧ m420.1 10 ≤ 8 := hT421.1 10
            have g425 : (-1) ≤ m420.1 11 ∧ m420.1 11 ≤ 4000 := hT421.1 11
            have g426 : 0 ≤ m420.1 28 ∧ m420.1 28 ≤ 800 := hT421.1 28
            by_cases hf427 : (m420.1 10) = 0
            · skip
              replace h422 : (0 : Int) = 0 := h422 hf427
              obtain ⟨c428, c429, c430⟩ := c423 hf427
              replace c428 : (m420.1 28) = (m.1 28) + 1 := c428
              replace c429 : EX (m420.2 65) (m420.2 67) B (m420.1 28) ((0 + lh (m.2 79) (m.2 80) (m.1 73)) + 1 - ar (400 : Int)) := c429
              have hEX := c429
              replace c430 : agr (m.2 65) (m420.2 65) (m.1 28) := c430
              have hAg := c430
              clear c423
              have u431 : (m.1 8) + 1 ≤ y401 := by omega
              have hAgC : agr (m.2 65) (m420.2 65) (m.1 28) := by first | exact agr_r _ _ | exact hAgC | exact agr_t hAgC hAg (by omega)
              have u432 : 1 ≤ (m.1 73) := by omega
              clear g408
              refine T_ld 114 (.ref 189) rfl (fun _ => rfl) ?_
              refine T_ld 116 (.int (i32 64)) rfl (fun _ => rfl) ?_
              refine T_ld 117 (.int (i32 (m.1 8))) rfl (fun _ => rfl) ?_
              refine T_call 120 249 [.ref 189, .int (i32 64), .int (i32 (m.1 8))] [] rfl (fun _ => rfl) rfl (c_atom w (mO m [(7, y399), (8, y401), (9, y403), (10, (m420.1 10)), (11, (m420.1 11)), (12, y409), (28, (m420.1 28)), (69, (m.1 69)), (70, (m.1 70)), (71, (m.1 71)), (72, (m.1 72)), (73, (m.1 73)), (74, (m.1 74)), (75, (m.1 75))] [(65, (m420.2 65)), (66, (m420.2 66)), (67, (m420.2 67)), (68, (m420.2 68)), (76, (m.2 76)), (77, (m.2 77)), (78, (m.2 78)), (79, (m.2 79)), (80, (m.2 80))]) c N D (by omega) (Ty_mO hT rfl rfl ⟨g400, g402, g404, (hT421.1 10), (hT421.1 11), g410, (hT421.1 28), f69, f70, f71, f72, f73, f74, f75, trivial⟩ ⟨(hT421.2.1 65), (hT421.2.1 66), (hT421.2.1 67), (hT421.2.1 68), (hT.2.1 76), (hT.2.1 77), (hT.2.1 78), (hT.2.1 79), (hT.2.1 80), trivial⟩) 64 (m.1 8) ⟨by decide, by decide⟩ (r32 (by omega) (by omega)) (show 0 ≤ (64 : Int) ∧ (64 : Int) ≤ 64 by omega) (show 0 ≤ (m.1 8) ∧ (m.1 8) ≤ 4000 by omega)) (fun rr433 k434 => ?_)
              obtain ⟨m435, hT436, h437, rfl⟩ := k434
              refine ⟨_, _, rfl, ?_⟩
              refine T_nf2 (st' := []) (l' := [(7, y399), (8, y401), (9, y403), (10, (m420.1 10)), (11, (m420.1 11)), (12, y409), (28, (m420.1 28)), (69, (m435.1 69)), (70, (m435.1 70)), (71, (m435.1 71)), (72, (m435.1 72)), (73, (m.1 73)), (74, (m.1 74)), (75, (m435.1 75))]) (a' := [(65, (m420.2 65)), (66, (m420.2 66)), (67, (m420.2 67)), (68, (m420.2 68)), (76, (m.2 76)), (77, (m.2 77)), (78, (m.2 78)), (79, (m.2 79)), (80, (m.2 80))]) [69, 70, 71, 72, 75] [] rfl ⟨rfl, rfl, rfl, rfl, rfl, rfl, rfl, rfl, rfl, rfl, rfl, rfl, rfl, rfl, rfl, rfl, rfl, rfl, rfl, rfl, rfl, rfl, rfl, rfl, rfl, rfl, rfl, rfl, rfl, rfl, rfl, rfl, rfl, rfl, rfl, rfl, rfl, trivial⟩ ⟨rfl, rfl, rfl, rfl, rfl, rfl, rfl, rfl, rfl, rfl, rfl, rfl, rfl, rfl, rfl, rfl, rfl, rfl, trivial⟩ rfl rfl (by decide) (by decide) ?_
              have g438 : 0 ≤ m435.1 69 ∧ m435.1 69 ≤ 1024 := hT436.1 69
              have g439 : 0 ≤ m435.1 70 ∧ m435.1 70 ≤ 4000 := hT436.1 70
              have g440 : 0 ≤ m435.1 71 ∧ m435.1 71 ≤ 1 := hT436.1 71
              have g441 : (-9223372036854775808) ≤ m435.1 72 ∧ m435.1 72 ≤ 9223372036854775807 := hT436.1 72
              have g442 : 0 ≤ m435.1 75 ∧ m435.1 75 ≤ 3 := hT436.1 75
              replace h437 : (m420.1 10) = 0 → (m435.1 75) = 1 ∧ (m435.1 69) = (64 : Int) := h437
              have u443 : (m.1 8) + 1 ≤ y401 := by omega
              have hAgC : agr (m.2 65) (m420.2 65) (m.1 28) := by first | exact agr_r _ _ | exact hAgC | exact agr_t hAgC hAg (by omega)
              have u444 : 1 ≤ (m.1 73) := by omega
              refine T_ld 121 (.ref 189) rfl (fun _ => rfl) ?_
              refine T_ld 122 (.int (i32 1)) rfl (fun _ => rfl) ?_
              refine T_pf (l' := [(7, y399), (8, y401), (9, y403), (10, (m420.1 10)), (11, (m420.1 11)), (12, y409), (28, (m420.1 28)), (69, (m435.1 69)), (70, (m435.1 70)), (71, 1), (72, (m435.1 72)), (73, (m.1 73)), (74, (m.1 74)), (75, (m435.1 75))]) 125 1 rfl rfl rfl rfl rfl rfl ?_
              refine T_ld 126 (.ref 189) rfl (fun _ => rfl) ?_
              refine T_ld 127 (.long (i64 (m.1 12))) rfl (fun _ => rfl) ?_
              refine T_pf (l' := [(7, y399), (8, y401), (9, y403), (10, (m420.1 10)), (11, (m420.1 11)), (12, y409), (28, (m420.1 28)), (69, (m435.1 69)), (70, (m435.1 70)), (71, 1), (72, (m.1 12)), (73, (m.1 73)), (74, (m.1 74)), (75, (m435.1 75))]) 130 (m.1 12) rfl rfl rfl rfl rfl rfl ?_
              have g445 : (-9223372036854775808) ≤ (m.1 12) ∧ (m.1 12) ≤ 9223372036854775807 := ⟨by omega, by omega⟩
              have hXE : XS (m420.2 65) (m420.2 67) (m.2 76) (m.2 78) (m.2 79) (m.2 80) B (m420.1 28) (m.1 73) (m.1 74) (um (m435.1 75)) := by
                rw [show um (m435.1 75) = 1 from if_neg (by omega)]
                exact XS_of hXS hEX (by rw [show ar 400 = 0 from rfl]; omega)
              refine T_goto 219 rfl (fun _ => rfl) ?_
              refine T_ret rfl (fun _ => rfl) ?_
              exact ⟨(mO m [(7, y399), (8, y401), (9, y403), (10, (m420.1 10)), (11, (m420.1 11)), (12, y409), (28, (m420.1 28)), (69, (m435.1 69)), (70, (m435.1 70)), (71, 1), (72, (m.1 12)), (73, (m.1 73)), (74, (m.1 74)), (75, (m435.1 75))] [(65, (m420.2 65)), (66, (m420.2 66)), (67, (m420.2 67)), (68, (m420.2 68)), (76, (m.2 76)), (77, (m.2 77)), (78, (m.2 78)), (79, (m.2 79)), (80, (m.2 80))]), (Ty_mO hT rfl rfl ⟨g400, g402, g404, (hT421.1 10), (hT421.1 11), g410, (hT421.1 28), (hT436.1 69), (hT436.1 70), ⟨(by omega : (0 : Int) ≤ 1), (by omega : (1 : Int) ≤ 1)⟩, g445, f73, f74, (hT436.1 75), trivial⟩ ⟨(hT421.2.1 65), (hT421.2.1 66), (hT421.2.1 67), (hT421.2.1 68), (hT.2.1 76), (hT.2.1 77), (hT.2.1 78), (hT.2.1 79), (hT.2.1 80), trivial⟩), (show (m420.1 10) = 0 → (m.1 10) = 0 by omega), (show LxP y399 y401 y403 (m.1 6) (m420.1 10) by first | (first | exact hLx | exact (fun _ => hLx (by omega)) | (intro h9; exfalso; omega)) | (exfalso; omega)), (fun _ => ⟨(show (m.1 8) + 1 ≤ y401 by omega), (show (m435.1 75) = 0 ∨ ((m435.1 75) = 1 ∧ (m435.1 69) ≤ 64) by omega), (show 1 ≤ (m.1 73) by omega), (show (m.1 28) ≤ (m420.1 28) by omega), (show XS (m420.2 65) (m420.2 67) (m.2 76) (m.2 78) (m.2 79) (m.2 80) B (m420.1 28) (m.1 73) (m.1 74) (um (m435.1 75)) by first | (exact hXE) | (exfalso; omega)), (show agr (m.2 65) (m420.2 65) (m.1 28) by first | (exact hAgC) | (exfalso; omega))⟩), rfl⟩
            · skip
              clear c423
              clear h422
              have hf446 : 1 ≤ (m420.1 10) := by omega
              clear g408
              refine Tm_lv (a := [(0, .ref 189), (1, .int (i32 (m.1 8))), (2, .long (i64 (m.1 12)))]) rfl rfl ⟨rfl, rfl, rfl, trivial⟩ ?_
              exact J113_66 (mO m [(7, y399), (8, y401), (9, y403), (10, (m420.1 10)), (11, (m420.1 11)), (12, y409), (28, (m420.1 28)), (69, (m.1 69)), (70, (m.1 70)), (71, (m.1 71)), (72, (m.1 72)), (73, (m.1 73)), (74, (m.1 74)), (75, (m.1 75))] [(65, (m420.2 65)), (66, (m420.2 66)), (67, (m420.2 67)), (68, (m420.2 68)), (76, (m.2 76)), (77, (m.2 77)), (78, (m.2 78)), (79, (m.2 79)), (80, (m.2 80))]) (Ty_mO hT rfl rfl ⟨g400, g402, g404, (hT421.1 10), (hT421.1 11), g410, (hT421.1 28), f69, f70, f71, f72, f73, f74, f75, trivial⟩ ⟨(hT421.2.1 65), (hT421.2.1 66), (hT421.2.1 67), (hT421.2.1 68), (hT.2.1 76), (hT.2.1 77), (hT.2.1 78), (hT.2.1 79), (hT.2.1 80), trivial⟩) (show 1 ≤ (m420.1 10) by omega) (show (m420.1 10) ≤ 8 by omega) (show 0 ≤ (m.1 8) ∧ (m.1 8) ≤ 4000 by omega)
          · skip
            replace h411 : LxP y399 y401 y403 (m.1 6) y405 := h411
            have hLx := h411
            clear h412
            replace h413 : (m.1 8) ≤ y401 := h413
            clear h414
            have hf447 : 1 ≤ y405 := by omega
            refine T_ld 103 (.ref 189) rfl (fun _ => rfl) ?_
            refine T_ld 106 (.int (i32 400)) rfl (fun _ => rfl) ?_
            refine T_ld 108 (.int (i32 64)) rfl (fun _ => rfl) ?_
            refine T_ld 109 (.int (i32 0)) rfl (fun _ => rfl) ?_
            refine T_ld 110 (.long (i64 (m.1 12))) rfl (fun _ => rfl) ?_
            refine T_call 113 248 [.ref 189, .int (i32 400), .int (i32 64), .int (i32 0), .long (i64 (m.1 12))] [] rfl (fun _ => rfl) rfl (c_node w (mO m [(7, y399), (8, y401), (9, y403), (10, y405), (11, y407), (12, y409), (28, (m.1 28)), (69, (m.1 69)), (70, (m.1 70)), (71, (m.1 71)), (72, (m.1 72)), (73, (m.1 73)), (74, (m.1 74)), (75, (m.1 75))] [(65, (m.2 65)), (66, (m.2 66)), (67, (m.2 67)), (68, (m.2 68)), (76, (m.2 76)), (77, (m.2 77)), (78, (m.2 78)), (79, (m.2 79)), (80, (m.2 80))]) c N D (by omega) (Ty_mO hT rfl rfl ⟨g400, g402, g404, g406, g408, g410, f28, f69, f70, f71, f72, f73, f74, f75, trivial⟩ ⟨(hT.2.1 65), (hT.2.1 66), (hT.2.1 67), (hT.2.1 68), (hT.2.1 76), (hT.2.1 77), (hT.2.1 78), (hT.2.1 79), (hT.2.1 80), trivial⟩) 400 64 0 (m.1 12) B (0 + lh (m.2 79) (m.2 80) (m.1 73)) ⟨by decide, by decide⟩ ⟨by decide, by decide⟩ ⟨by decide, by decide⟩ (r64 (by omega) (by omega)) (fun (h : y405 = 0) => absurd h (by omega))) (fun rr448 k449 => ?_)
            obtain ⟨m450, hT451, h452, c453, rfl⟩ := k449
            refine ⟨_, _, rfl, ?_⟩
            refine T_nf2 (st' := []) (l' := [(7, y399), (8, y401), (9, y403), (10, (m450.1 10)), (11, (m450.1 11)), (12, y409), (28, (m450.1 28)), (69, (m.1 69)), (70, (m.1 70)), (71, (m.1 71)), (72, (m.1 72)), (73, (m.1 73)), (74, (m.1 74)), (75, (m.1 75))]) (a' := [(65, (m450.2 65)), (66, (m450.2 66)), (67, (m450.2 67)), (68, (m450.2 68)), (76, (m.2 76)), (77, (m.2 77)), (78, (m.2 78)), (79, (m.2 79)), (80, (m.2 80))]) [10, 11, 28] [65, 66, 67, 68] rfl ⟨rfl, rfl, rfl, rfl, rfl, rfl, rfl, rfl, rfl, rfl, rfl, rfl, rfl, rfl, rfl, rfl, rfl, rfl, rfl, rfl, rfl, rfl, rfl, rfl, rfl, rfl, rfl, rfl, rfl, rfl, rfl, rfl, trivial⟩ ⟨rfl, rfl, rfl, rfl, rfl, rfl, rfl, rfl, rfl, rfl, rfl, rfl, rfl, rfl, rfl, rfl, rfl, rfl, trivial⟩ rfl rfl (by decide) (by decide) ?_
            have g454 : 0 ≤ m450.1 10 ∧ m450.1 10 ≤ 8 := hT451.1 10
            have g455 : (-1) ≤ m450.1 11 ∧ m450.1 11 ≤ 4000 := hT451.1 11
            have g456 : 0 ≤ m450.1 28 ∧ m450.1 28 ≤ 800 := hT451.1 28
            replace h452 : (m450.1 10) = 0 → y405 = 0 := h452
            have hf457 : 1 ≤ (m450.1 10) := by omega
            clear c453
            clear h452
            clear g406 g408 h411 hf447
            refine Tm_lv (a := [(0, .ref 189), (1, .int (i32 (m.1 8))), (2, .long (i64 (m.1 12)))]) rfl rfl ⟨rfl, rfl, rfl, trivial⟩ ?_
            exact J113_66 (mO m [(7, y399), (8, y401), (9, y403), (10, (m450.1 10)), (11, (m450.1 11)), (12, y409), (28, (m450.1 28)), (69, (m.1 69)), (70, (m.1 70)), (71, (m.1 71)), (72, (m.1 72)), (73, (m.1 73)), (74, (m.1 74)), (75, (m.1 75))] [(65, (m450.2 65)), (66, (m450.2 66)), (67, (m450.2 67)), (68, (m450.2 68)), (76, (m.2 76)), (77, (m.2 77)), (78, (m.2 78)), (79, (m.2 79)), (80, (m.2 80))]) (Ty_mO hT rfl rfl ⟨g400, g402, g404, (hT451.1 10), (hT451.1 11), g410, (hT451.1 28), f69, f70, f71, f72, f73, f74, f75, trivial⟩ ⟨(hT451.2.1 65), (hT451.2.1 66), (hT451.2.1 67), (hT451.2.1 68), (hT.2.1 76), (hT.2.1 77), (hT.2.1 78), (hT.2.1 79), (hT.2.1 80), trivial⟩) (show 1 ≤ (m450.1 10) by omega) (show (m450.1 10) ≤ 8 by omega) (show 0 ≤ (m.1 8) ∧ (m.1 8) ≤ 4000 by omega)
      · skip
        refine T_gf 36 (.int (i32 (m.1 74))) rfl rfl rfl rfl rfl rfl ?_
        refine T_ld 38 (.int (i32 24)) rfl (fun _ => rfl) ?_
        refine T_icmp 50 41 rfl rfl rfl (r32 (by omega) (by omega)) ⟨by decide, by decide⟩ (fun (h458 : (m.1 74) ≠ 24) => ?_) (fun (h458 : ¬ ((m.1 74) ≠ 24)) => ?_)
        · skip
          refine T_gf 54 (.int (i32 (m.1 10))) rfl rfl rfl rfl rfl rfl ?_
          refine T_if 58 57 rfl rfl rfl (r32 (by omega) (by omega)) (fun (h459 : (m.1 10) ≤ 0) => ?_) (fun (h459 : ¬ ((m.1 10) ≤ 0)) => by exfalso; omega)
          refine T_ld 59 (.ref 189) rfl (fun _ => rfl) ?_
          refine T_ld 60 (.ref 189) rfl (fun _ => rfl) ?_
          refine T_gf1 63 (.int (i32 (m.1 74))) rfl rfl rfl rfl ?_
          refine T_ld 64 (.int (i32 1)) rfl (fun _ => rfl) ?_
          refine T_iadd 65 rfl rfl ?_
          refine T_pf (l' := [(7, (m.1 7)), (8, (m.1 8)), (9, (m.1 9)), (10, (m.1 10)), (11, (m.1 11)), (12, (m.1 12)), (28, (m.1 28)), (69, (m.1 69)), (70, (m.1 70)), (71, (m.1 71)), (72, (m.1 72)), (73, (m.1 73)), (74, (m.1 74) + 1), (75, (m.1 75))]) 68 ((m.1 74) + 1) rfl rfl rfl rfl rfl rfl ?_
          have g460 : 0 ≤ (m.1 74) + 1 ∧ (m.1 74) + 1 ≤ 24 := ⟨by omega, by omega⟩
          refine T_ld 69 (.ref 189) rfl (fun _ => rfl) ?_
          refine T_ld 70 (.int (i32 1)) rfl (fun _ => rfl) ?_
          refine T_ld 71 (.int (i32 (m.1 8))) rfl (fun _ => rfl) ?_
          refine T_gf 75 (.int (i32 (m.1 7))) rfl rfl rfl rfl rfl rfl ?_
          refine T_call 78 246 [.ref 189, .int (i32 1), .int (i32 (m.1 8)), .int (i32 (m.1 7))] [] rfl (fun _ => rfl) rfl (c_open w (mO m [(7, (m.1 7)), (8, (m.1 8)), (9, (m.1 9)), (10, (m.1 10)), (11, (m.1 11)), (12, (m.1 12)), (28, (m.1 28)), (69, (m.1 69)), (70, (m.1 70)), (71, (m.1 71)), (72, (m.1 72)), (73, (m.1 73)), (74, (m.1 74) + 1), (75, (m.1 75))] [(65, (m.2 65)), (66, (m.2 66)), (67, (m.2 67)), (68, (m.2 68)), (76, (m.2 76)), (77, (m.2 77)), (78, (m.2 78)), (79, (m.2 79)), (80, (m.2 80))]) c N D (by omega) (Ty_mO hT rfl rfl ⟨f7, f8, f9, f10, f11, f12, f28, f69, f70, f71, f72, f73, g460, f75, trivial⟩ ⟨(hT.2.1 65), (hT.2.1 66), (hT.2.1 67), (hT.2.1 68), (hT.2.1 76), (hT.2.1 77), (hT.2.1 78), (hT.2.1 79), (hT.2.1 80), trivial⟩) 1 (m.1 8) (m.1 7) ⟨by decide, by decide⟩ (r32 (by omega) (by omega)) (r32 (by omega) (by omega)) (show (m.1 73) ≤ 59 by omega) (show 0 ≤ (1 : Int) ∧ (1 : Int) ≤ 2 by omega) (show 0 ≤ (m.1 8) ∧ (m.1 8) ≤ 4000 by omega) (show 0 ≤ (m.1 7) ∧ (m.1 7) ≤ 330 by omega)) (fun rr461 k462 => ?_)
          obtain ⟨m463, hT464, h465, h466, h467, h468, h469, h470, rfl⟩ := k462
          refine ⟨_, _, rfl, ?_⟩
          refine T_nf2 (st' := []) (l' := [(7, (m.1 7)), (8, (m.1 8)), (9, (m.1 9)), (10, (m.1 10)), (11, (m.1 11)), (12, (m.1 12)), (28, (m.1 28)), (69, (m.1 69)), (70, (m.1 70)), (71, (m.1 71)), (72, (m.1 72)), (73, (m463.1 73)), (74, (m.1 74) + 1), (75, (m.1 75))]) (a' := [(65, (m.2 65)), (66, (m.2 66)), (67, (m.2 67)), (68, (m.2 68)), (76, (m463.2 76)), (77, (m463.2 77)), (78, (m463.2 78)), (79, (m463.2 79)), (80, (m463.2 80))]) [73] [76, 77, 78, 79, 80] rfl ⟨rfl, rfl, rfl, rfl, rfl, rfl, rfl, rfl, rfl, rfl, rfl, rfl, rfl, rfl, rfl, rfl, rfl, rfl, rfl, rfl, rfl, rfl, rfl, rfl, rfl, rfl, rfl, rfl, rfl, rfl, rfl, rfl, rfl, rfl, rfl, rfl, rfl, rfl, rfl, trivial⟩ ⟨rfl, rfl, rfl, rfl, rfl, rfl, rfl, rfl, rfl, rfl, rfl, rfl, rfl, rfl, rfl, rfl, rfl, rfl, rfl, rfl, rfl, rfl, trivial⟩ rfl rfl (by decide) (by decide) ?_
          have g471 : 0 ≤ m463.1 73 ∧ m463.1 73 ≤ 60 := hT464.1 73
          replace h465 : (m463.1 73) = (m.1 73) + 1 := h465
          have hO0 := h465
          replace h466 : (m463.2 76) = upI (m.2 76) (m.1 73) (1 : Int) := h466
          have hO1 := h466
          replace h467 : (m463.2 78) = upI (m.2 78) (m.1 73) (m.1 7) := h467
          have hO2 := h467
          replace h468 : (m463.2 79) = upI (m.2 79) (m.1 73) 0 := h468
          have hO3 := h468
          replace h469 : ∀ j, j < 9 * (m.1 73) → (m463.2 80) j = (m.2 80) j := h469
          have hW1 := h469
          replace h470 : ∀ j, 9 * (m.1 73) ≤ j → j < 9 * (m.1 73) + 9 → (m463.2 80) j = -1 := h470
          have hW2 := h470
          have u472 : (m.1 8) ≤ (m.1 8) := by omega
          have hAgC : agr (m.2 65) (m.2 65) (m.1 28) := by first | exact agr_r _ _ | exact hAgC | exact agr_t hAgC hAg (by omega)
          have u473 : 1 ≤ (m463.1 73) := by omega
          refine T_ld 79 (.ref 189) rfl (fun _ => rfl) ?_
          refine T_call 82 212 [.ref 189] [] rfl (fun _ => rfl) rfl (c_next w (mO m [(7, (m.1 7)), (8, (m.1 8)), (9, (m.1 9)), (10, (m.1 10)), (11, (m.1 11)), (12, (m.1 12)), (28, (m.1 28)), (69, (m.1 69)), (70, (m.1 70)), (71, (m.1 71)), (72, (m.1 72)), (73, (m463.1 73)), (74, (m.1 74) + 1), (75, (m.1 75))] [(65, (m.2 65)), (66, (m.2 66)), (67, (m.2 67)), (68, (m.2 68)), (76, (m463.2 76)), (77, (m463.2 77)), (78, (m463.2 78)), (79, (m463.2 79)), (80, (m463.2 80))]) c N D (by omega) (Ty_mO hT rfl rfl ⟨f7, f8, f9, f10, f11, f12, f28, f69, f70, f71, f72, (hT464.1 73), g460, f75, trivial⟩ ⟨(hT.2.1 65), (hT.2.1 66), (hT.2.1 67), (hT.2.1 68), (hT464.2.1 76), (hT464.2.1 77), (hT464.2.1 78), (hT464.2.1 79), (hT464.2.1 80), trivial⟩) (show (m.1 10) = 0 → (m.1 8) + (m.1 9) ≤ (m.1 6) by first | omega | (intro h9; have h8 := hLx h9; omega))) (fun rr474 k475 => ?_)
          obtain ⟨y476, y478, y480, y482, y484, y486, g477, g479, g481, g483, g485, g487, h488, h489, h490, h491, rfl⟩ := k475
          refine ⟨_, _, rfl, ?_⟩
          refine T_nf2 (st' := []) (l' := [(7, y476), (8, y478), (9, y480), (10, y482), (11, y484), (12, y486), (28, (m.1 28)), (69, (m.1 69)), (70, (m.1 70)), (71, (m.1 71)), (72, (m.1 72)), (73, (m463.1 73)), (74, (m.1 74) + 1), (75, (m.1 75))]) (a' := [(65, (m.2 65)), (66, (m.2 66)), (67, (m.2 67)), (68, (m.2 68)), (76, (m463.2 76)), (77, (m463.2 77)), (78, (m463.2 78)), (79, (m463.2 79)), (80, (m463.2 80))]) [7, 8, 9, 10, 11, 12] [] rfl ⟨rfl, rfl, rfl, rfl, rfl, rfl, rfl, rfl, rfl, rfl, rfl, rfl, rfl, rfl, rfl, rfl, rfl, rfl, rfl, rfl, rfl, rfl, rfl, rfl, rfl, rfl, rfl, rfl, trivial⟩ ⟨rfl, rfl, rfl, rfl, rfl, rfl, rfl, rfl, rfl, rfl, rfl, rfl, rfl, rfl, rfl, rfl, rfl, rfl, trivial⟩ rfl rfl (by decide) (by decide) ?_
          by_cases hf492 : y482 = 0
          · skip
            subst hf492
            replace h488 : LxP y476 y478 y480 (m.1 6) (0 : Int) := h488
            have hLx := h488
            replace h489 : (m.1 10) = 0 := h489 rfl
            replace h490 : (m.1 8) ≤ y478 := h490
            replace h491 : (m.1 8) + (m.1 9) ≤ y478 := h491 rfl
            have u493 : (m.1 8) + 1 ≤ y478 := by omega
            have hAgC : agr (m.2 65) (m.2 65) (m.1 28) := by first | exact agr_r _ _ | exact hAgC | exact agr_t hAgC hAg (by omega)
            have u494 : 1 ≤ (m463.1 73) := by omega
            clear g483
            have hXE : XS (m.2 65) (m.2 67) (m463.2 76) (m463.2 78) (m463.2 79) (m463.2 80) B (m.1 28) (m463.1 73) ((m.1 74) + 1) (um (m.1 75)) := by
              rw [hO0, hO1, hO2, hO3, show um (m.1 75) = 0 from if_pos (by omega)]
              exact XS_pre hXS (by omega) (by omega) hW1 hW2
            refine T_goto 219 rfl (fun _ => rfl) ?_
            refine T_ret rfl (fun _ => rfl) ?_
            exact ⟨(mO m [(7, y476), (8, y478), (9, y480), (10, 0), (11, y484), (12, y486), (28, (m.1 28)), (69, (m.1 69)), (70, (m.1 70)), (71, (m.1 71)), (72, (m.1 72)), (73, (m463.1 73)), (74, (m.1 74) + 1), (75, (m.1 75))] [(65, (m.2 65)), (66, (m.2 66)), (67, (m.2 67)), (68, (m.2 68)), (76, (m463.2 76)), (77, (m463.2 77)), (78, (m463.2 78)), (79, (m463.2 79)), (80, (m463.2 80))]), (Ty_mO hT rfl rfl ⟨g477, g479, g481, ⟨(by omega : (0 : Int) ≤ 0), (by omega : (0 : Int) ≤ 8)⟩, g485, g487, f28, f69, f70, f71, f72, (hT464.1 73), g460, f75, trivial⟩ ⟨(hT.2.1 65), (hT.2.1 66), (hT.2.1 67), (hT.2.1 68), (hT464.2.1 76), (hT464.2.1 77), (hT464.2.1 78), (hT464.2.1 79), (hT464.2.1 80), trivial⟩), (show (0 : Int) = 0 → (m.1 10) = 0 by omega), (show LxP y476 y478 y480 (m.1 6) (0 : Int) by first | (first | exact hLx | exact (fun _ => hLx (by omega)) | (intro h9; exfalso; omega)) | (exfalso; omega)), (fun _ => ⟨(show (m.1 8) + 1 ≤ y478 by omega), (show (m.1 75) = 0 ∨ ((m.1 75) = 1 ∧ (m.1 69) ≤ 64) by omega), (show 1 ≤ (m463.1 73) by omega), (show (m.1 28) ≤ (m.1 28) by omega), (show XS (m.2 65) (m.2 67) (m463.2 76) (m463.2 78) (m463.2 79) (m463.2 80) B (m.1 28) (m463.1 73) ((m.1 74) + 1) (um (m.1 75)) by first | (exact hXE) | (exfalso; omega)), (show agr (m.2 65) (m.2 65) (m.1 28) by first | (exact hAgC) | (exfalso; omega))⟩), rfl⟩
          · skip
            replace h488 : LxP y476 y478 y480 (m.1 6) y482 := h488
            have hLx := h488
            clear h489
            replace h490 : (m.1 8) ≤ y478 := h490
            clear h491
            have hf495 : 1 ≤ y482 := by omega
            refine Tm_lv (a := [(0, .ref 189), (1, .int (i32 (m.1 8)))]) rfl rfl ⟨rfl, rfl, trivial⟩ ?_
            exact J82_84 (mO m [(7, y476), (8, y478), (9, y480), (10, y482), (11, y484), (12, y486), (28, (m.1 28)), (69, (m.1 69)), (70, (m.1 70)), (71, (m.1 71)), (72, (m.1 72)), (73, (m463.1 73)), (74, (m.1 74) + 1), (75, (m.1 75))] [(65, (m.2 65)), (66, (m.2 66)), (67, (m.2 67)), (68, (m.2 68)), (76, (m463.2 76)), (77, (m463.2 77)), (78, (m463.2 78)), (79, (m463.2 79)), (80, (m463.2 80))]) (Ty_mO hT rfl rfl ⟨g477, g479, g481, g483, g485, g487, f28, f69, f70, f71, f72, (hT464.1 73), g460, f75, trivial⟩ ⟨(hT.2.1 65), (hT.2.1 66), (hT.2.1 67), (hT.2.1 68), (hT464.2.1 76), (hT464.2.1 77), (hT464.2.1 78), (hT464.2.1 79), (hT464.2.1 80), trivial⟩) (show 1 ≤ y482 by omega) (show y482 ≤ 8 by omega) (show 0 ≤ ((m.1 74) + 1) ∧ ((m.1 74) + 1) ≤ 24 by omega) (show 0 ≤ (m.1 8) ∧ (m.1 8) ≤ 4000 by omega)
        · skip
          refine T_ld 42 (.ref 189) rfl (fun _ => rfl) ?_
          refine T_ld 43 (.int (i32 4)) rfl (fun _ => rfl) ?_
          refine T_gf 47 (.int (i32 (m.1 8))) rfl rfl rfl rfl rfl rfl ?_
          refine T_call 50 222 [.ref 189, .int (i32 4), .int (i32 (m.1 8))] [] rfl (fun _ => rfl) rfl (c_wrong w (mO m [(7, (m.1 7)), (8, (m.1 8)), (9, (m.1 9)), (10, (m.1 10)), (11, (m.1 11)), (12, (m.1 12)), (28, (m.1 28)), (69, (m.1 69)), (70, (m.1 70)), (71, (m.1 71)), (72, (m.1 72)), (73, (m.1 73)), (74, (m.1 74)), (75, (m.1 75))] [(65, (m.2 65)), (66, (m.2 66)), (67, (m.2 67)), (68, (m.2 68)), (76, (m.2 76)), (77, (m.2 77)), (78, (m.2 78)), (79, (m.2 79)), (80, (m.2 80))]) c N D (by omega) (Ty_mO hT rfl rfl ⟨f7, f8, f9, f10, f11, f12, f28, f69, f70, f71, f72, f73, f74, f75, trivial⟩ ⟨(hT.2.1 65), (hT.2.1 66), (hT.2.1 67), (hT.2.1 68), (hT.2.1 76), (hT.2.1 77), (hT.2.1 78), (hT.2.1 79), (hT.2.1 80), trivial⟩) 4 (m.1 8) ⟨by decide, by decide⟩ (r32 (by omega) (by omega)) (show 1 ≤ (4 : Int) ∧ (4 : Int) ≤ 8 by omega) (show 0 ≤ (m.1 8) ∧ (m.1 8) ≤ 4000 by omega)) (fun rr496 k497 => ?_)
          obtain ⟨y498, y500, g499, g501, h502, rfl⟩ := k497
          refine ⟨_, _, rfl, ?_⟩
          refine T_nf2 (st' := []) (l' := [(7, (m.1 7)), (8, (m.1 8)), (9, (m.1 9)), (10, y498), (11, y500), (12, (m.1 12)), (28, (m.1 28)), (69, (m.1 69)), (70, (m.1 70)), (71, (m.1 71)), (72, (m.1 72)), (73, (m.1 73)), (74, (m.1 74)), (75, (m.1 75))]) (a' := [(65, (m.2 65)), (66, (m.2 66)), (67, (m.2 67)), (68, (m.2 68)), (76, (m.2 76)), (77, (m.2 77)), (78, (m.2 78)), (79, (m.2 79)), (80, (m.2 80))]) [10, 11] [] rfl ⟨rfl, rfl, rfl, rfl, rfl, rfl, rfl, rfl, rfl, rfl, rfl, rfl, rfl, rfl, rfl, rfl, rfl, rfl, rfl, rfl, rfl, rfl, rfl, rfl, rfl, rfl, rfl, rfl, rfl, rfl, rfl, trivial⟩ ⟨rfl, rfl, rfl, rfl, rfl, rfl, rfl, rfl, rfl, rfl, rfl, rfl, rfl, rfl, rfl, rfl, rfl, rfl, trivial⟩ rfl rfl (by decide) (by decide) ?_
          replace h502 : (0 < (m.1 10) → y498 = (m.1 10) ∧ y500 = (m.1 11)) ∧ ((m.1 10) ≤ 0 → y498 = (4 : Int) ∧ y500 = (m.1 8)) := h502
          have hf503 : 1 ≤ y498 := by omega
          refine Tm_lv (a := [(0, .ref 189), (1, .int (i32 (m.1 8)))]) rfl rfl ⟨rfl, rfl, trivial⟩ ?_
          exact J50_92 (mO m [(7, (m.1 7)), (8, (m.1 8)), (9, (m.1 9)), (10, y498), (11, y500), (12, (m.1 12)), (28, (m.1 28)), (69, (m.1 69)), (70, (m.1 70)), (71, (m.1 71)), (72, (m.1 72)), (73, (m.1 73)), (74, (m.1 74)), (75, (m.1 75))] [(65, (m.2 65)), (66, (m.2 66)), (67, (m.2 67)), (68, (m.2 68)), (76, (m.2 76)), (77, (m.2 77)), (78, (m.2 78)), (79, (m.2 79)), (80, (m.2 80))]) (Ty_mO hT rfl rfl ⟨f7, f8, f9, g499, g501, f12, f28, f69, f70, f71, f72, f73, f74, f75, trivial⟩ ⟨(hT.2.1 65), (hT.2.1 66), (hT.2.1 67), (hT.2.1 68), (hT.2.1 76), (hT.2.1 77), (hT.2.1 78), (hT.2.1 79), (hT.2.1 80), trivial⟩) (show 1 ≤ y498 by omega) (show y498 ≤ 8 by omega) (show 0 ≤ (m.1 8) ∧ (m.1 8) ≤ 4000 by omega)
